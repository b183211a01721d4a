/-! F functions, by program. -/
/-- LyndonBench$History.forgetOldest()V -/
theorem mfH_forgetOldest : z_me 2 zc_2 3 [] none := ⟨rfl, rfl, rfl, rfl⟩
def fH_forgetOldest_18 (N : Nat) : Nat → Nat → Nat → Int32 → zH → Option (Unit × zH)
  | 0, _, _, _, _ => none
  | n + 1, l0, l1, l2, h => b1 (fR h l0 1 0) fun x5 => b1 (fN h x5 105) fun x6 => cond (z_cmp .ge l2 x6) (b1 (fR h l0 1 0) fun x7 => b1 (fR h l0 1 0) fun x8 => b1 (fN h x8 105) fun x9 => cond (fT h l1 (za_elem 105) && Nat.blt l1 1000000) (b1 (fAS h x7 105 (x9 - (Int32.ofInt 1)) (.ref l1)) fun h10 => b1 (fR h10 l0 1 0) fun x11 => b1 (fN h10 x11 105) fun x12 => b1 (fS h10 l0 1 1 (.int (x12 - (Int32.ofInt 1)))) fun h13 => some ((), h13)) none) (b1 (fR h l0 1 0) fun x14 => b1 (fR h l0 1 0) fun x15 => b1 (fAR h x15 105 l2) fun x16 => cond (fT h x16 (za_elem 105) && Nat.blt x16 1000000) (b1 (fAS h x14 105 (l2 - (Int32.ofInt 1)) (.ref x16)) fun h17 => fH_forgetOldest_18 N n  l0 l1 (l2 + Int32.ofInt 1) h17) none)
theorem sfH_forgetOldest_18 {xs : List Int32} (N : Nat)   : ∀ (n : Nat) (l0 : Nat) (l1 : Nat) (l2 : Int32) (h : zH) (r : Unit × zH), fH_forgetOldest_18 N n  l0 l1 l2 h = some r → zt xs (0) 2 18 [(0, .ref l0), (1, .ref l1), (2, .int l2)] [] h 0 0 (zQ cV r) := by
  have hy := mfH_forgetOldest
  intro n
  induction n with
  | zero =>
    intro l0 l1 l2 h r e
    rw [fH_forgetOldest_18] at e
    cases e
  | succ n ih =>
    intro l0 l1 l2 h r e
    rw [fH_forgetOldest_18] at e
    exact zl hy 2 (pc2 := 20) (lv2 := [(0, .ref l0), (1, .ref l1), (2, .int l2)]) (st2 := [.ref l0, .int l2]) rfl <| zx_gR hy rfl e fun x5 _ e => zx_len hy (Nat.le_of_ble_eq_true rfl) rfl e fun x6 _ e => zx_c hy rfl e (fun _ e => zl hy 1 (pc2 := 48) (lv2 := [(0, .ref l0), (1, .ref l1), (2, .int l2)]) (st2 := [.ref l0]) rfl <| zx_gR hy rfl e fun x7 _ e => zl hy 1 (pc2 := 52) (lv2 := [(0, .ref l0), (1, .ref l1), (2, .int l2)]) (st2 := [.ref l0, .ref x7]) rfl <| zx_gR hy rfl e fun x8 _ e => zx_len hy (Nat.le_of_ble_eq_true rfl) rfl e fun x9 _ e => zl hy 3 (pc2 := 59) (lv2 := [(0, .ref l0), (1, .ref l1), (2, .int l2)]) (st2 := [.ref l1, .int (x9 - (Int32.ofInt 1)), .ref x7]) rfl <| zx_sR hy ⟨Nat.le_of_ble_eq_true rfl, Nat.le_of_ble_eq_true rfl⟩ rfl e fun h10 _ e => zl hy 2 (pc2 := 62) (lv2 := [(0, .ref l0), (1, .ref l1), (2, .int l2)]) (st2 := [.ref l0, .ref l0]) rfl <| zx_gR hy rfl e fun x11 _ e => zx_len hy (Nat.le_of_ble_eq_true rfl) rfl e fun x12 _ e => zl hy 2 (pc2 := 68) (lv2 := [(0, .ref l0), (1, .ref l1), (2, .int l2)]) (st2 := [.int (x12 - (Int32.ofInt 1)), .ref l0]) rfl <| zx_pf hy rfl e (rfl) fun h13 _ e => zx_retV hy rfl rfl e) (fun _ e => zl hy 1 (pc2 := 28) (lv2 := [(0, .ref l0), (1, .ref l1), (2, .int l2)]) (st2 := [.ref l0]) rfl <| zx_gR hy rfl e fun x14 _ e => zl hy 4 (pc2 := 35) (lv2 := [(0, .ref l0), (1, .ref l1), (2, .int l2)]) (st2 := [.ref l0, .int (l2 - (Int32.ofInt 1)), .ref x14]) rfl <| zx_gR hy rfl e fun x15 _ e => zl hy 1 (pc2 := 39) (lv2 := [(0, .ref l0), (1, .ref l1), (2, .int l2)]) (st2 := [.int l2, .ref x15, .int (l2 - (Int32.ofInt 1)), .ref x14]) rfl <| zx_aR hy (Nat.le_of_ble_eq_true rfl) rfl e fun x16 _ e => zx_sR hy ⟨Nat.le_of_ble_eq_true rfl, Nat.le_of_ble_eq_true rfl⟩ rfl e fun h17 _ e => zl hy 2 (pc2 := 18) (lv2 := [(2, .int (l2 + Int32.ofInt 1)), (0, .ref l0), (1, .ref l1)]) (st2 := []) rfl <| zt_sub (z_fc rfl (z_fc rfl (z_fc rfl (z_fn)))) <| ih l0 l1 (l2 + Int32.ofInt 1) h17 _ e)
def fH_forgetOldest (N : Nat) (l0 : Nat) (h : zH) : Option (Unit × zH) := cond (fT h l0 1) (b1 (fR h l0 1 0) fun x1 => b1 (fN h x1 105) fun x2 => cond (z_cmp .ne x2 (Int32.ofInt 0)) (b1 (fR h l0 1 0) fun x3 => b1 (fAR h x3 105 (Int32.ofInt 0)) fun x4 => fH_forgetOldest_18 N N  l0 x4 (Int32.ofInt 1) h) (some ((), h))) none
theorem sfH_forgetOldest {xs : List Int32} (N : Nat) (l0 : Nat) (h : zH) (r : Unit × zH) (e : fH_forgetOldest N l0 h = some r) : zt xs (0) 2 0 [(0, .ref l0)] [] h 0 0 (zQ cV r) := by
  have hy := mfH_forgetOldest
  unfold fH_forgetOldest at e
  replace e := (cond_some e).2
  exact zl hy 1 (pc2 := 1) (lv2 := [(0, .ref l0)]) (st2 := [.ref l0]) rfl <| zx_gR hy rfl e fun x1 _ e => zx_len hy (Nat.le_of_ble_eq_true rfl) rfl e fun x2 _ e => zx_c0 hy rfl e (fun _ e => zl hy 1 (pc2 := 10) (lv2 := [(0, .ref l0)]) (st2 := [.ref l0]) rfl <| zx_gR hy rfl e fun x3 _ e => zl hy 1 (pc2 := 14) (lv2 := [(0, .ref l0)]) (st2 := [.int (Int32.ofInt 0), .ref x3]) rfl <| zx_aR hy (Nat.le_of_ble_eq_true rfl) rfl e fun x4 _ e => zl hy 3 (pc2 := 18) (lv2 := [(2, .int (Int32.ofInt 1)), (1, .ref x4), (0, .ref l0)]) (st2 := []) rfl <| zt_sub (z_fc rfl (z_fc rfl (z_fc rfl (z_fn)))) <| sfH_forgetOldest_18 N   N l0 x4 (Int32.ofInt 1) h _ e) (fun _ e => zx_retV hy rfl rfl e)
theorem rfH_forgetOldest (N : Nat) (l0 : Nat) (h : zH) (r : Unit × zH) (e : fH_forgetOldest N l0 h = some r) : fT h l0 1 = true := by
  unfold fH_forgetOldest at e
  exact (cond_some e).1
/-- LyndonBench$Word.clear()V -/
theorem mfW_clear : z_me 22 zc_22 1 [] none := ⟨rfl, rfl, rfl, rfl⟩
def fW_clear (N : Nat) (l0 : Nat) (h : zH) : Option (Unit × zH) := cond (fT h l0 4) (b1 (fS h l0 4 1 (.int (Int32.ofInt 0))) fun h1 => some ((), h1)) none
theorem sfW_clear {xs : List Int32} (N : Nat) (l0 : Nat) (h : zH) (r : Unit × zH) (e : fW_clear N l0 h = some r) : zt xs (0) 22 0 [(0, .ref l0)] [] h 0 0 (zQ cV r) := by
  have hy := mfW_clear
  unfold fW_clear at e
  replace e := (cond_some e).2
  exact zl hy 2 (pc2 := 2) (lv2 := [(0, .ref l0)]) (st2 := [.int (Int32.ofInt 0), .ref l0]) rfl <| zx_pf hy rfl e (rfl) fun h1 _ e => zx_retV hy rfl rfl e
theorem rfW_clear (N : Nat) (l0 : Nat) (h : zH) (r : Unit × zH) (e : fW_clear N l0 h = some r) : fT h l0 4 = true := by
  unfold fW_clear at e
  exact (cond_some e).1
/-- LyndonBench$Word.at(I)I -/
theorem mfW_at : z_me 20 zc_20 2 [] (some .int) := ⟨rfl, rfl, rfl, rfl⟩
def fW_at_35 (N : Nat)  (s0 : Int32) (h : zH) : Option (Int32 × zH) := some (s0, h)
theorem sfW_at_35 {xs : List Int32} (N : Nat)   (s0 : Int32) (h : zH) (r : Int32 × zH) (e : fW_at_35 N  s0 h = some r) : zt xs (0) 20 35 [] [.int s0] h 0 0 (zQ cI r) := by
  have hy := mfW_at
  unfold fW_at_35 at e
  exact zx_ret hy rfl rfl rfl rfl e
def fW_at_34 (N : Nat)   (h : zH) : Option (Int32 × zH) := fW_at_35 N  (Int32.ofInt (-1)) h
theorem sfW_at_34 {xs : List Int32} (N : Nat)    (h : zH) (r : Int32 × zH) (e : fW_at_34 N   h = some r) : zt xs (0) 20 34 [] [] h 0 0 (zQ cI r) := by
  have hy := mfW_at
  unfold fW_at_34 at e
  exact zl hy 1 (pc2 := 35) (lv2 := []) (st2 := [.int (Int32.ofInt (-1))]) rfl <| zt_sub (z_fn) <| sfW_at_35 N   (Int32.ofInt (-1)) h _ e
def fW_at (N : Nat) (l0 : Nat) (l1 : Int32) (h : zH) : Option (Int32 × zH) := cond (fT h l0 4) (cond (z_cmp .lt l1 (Int32.ofInt 0)) (fW_at_34 N   h) (b1 (fI h l0 4 1) fun x1 => cond (z_cmp .ge l1 x1) (fW_at_34 N   h) (b1 (fR h l0 4 0) fun x2 => b1 (fN h x2 101) fun x3 => cond (z_cmp .ge l1 x3) (fW_at_34 N   h) (b1 (fR h l0 4 0) fun x4 => b1 (fAI h x4 101 l1) fun x5 => fW_at_35 N  (x5 &&& (Int32.ofInt 255)) h)))) none
theorem sfW_at {xs : List Int32} (N : Nat) (l0 : Nat) (l1 : Int32) (h : zH) (r : Int32 × zH) (e : fW_at N l0 l1 h = some r) : zt xs (0) 20 0 [(0, .ref l0), (1, .int l1)] [] h 0 0 (zQ cI r) := by
  have hy := mfW_at
  unfold fW_at at e
  replace e := (cond_some e).2
  exact zl hy 1 (pc2 := 1) (lv2 := [(0, .ref l0), (1, .int l1)]) (st2 := [.int l1]) rfl <| zx_c0 hy rfl e (fun _ e => zt_sub (z_fn) <| sfW_at_34 N    h _ e) (fun _ e => zl hy 2 (pc2 := 6) (lv2 := [(0, .ref l0), (1, .int l1)]) (st2 := [.ref l0, .int l1]) rfl <| zx_gI hy rfl e fun x1 _ e => zx_c hy rfl e (fun _ e => zt_sub (z_fn) <| sfW_at_34 N    h _ e) (fun _ e => zl hy 2 (pc2 := 14) (lv2 := [(0, .ref l0), (1, .int l1)]) (st2 := [.ref l0, .int l1]) rfl <| zx_gR hy rfl e fun x2 _ e => zx_len hy (Nat.le_of_ble_eq_true rfl) rfl e fun x3 _ e => zx_c hy rfl e (fun _ e => zt_sub (z_fn) <| sfW_at_34 N    h _ e) (fun _ e => zl hy 1 (pc2 := 22) (lv2 := [(0, .ref l0), (1, .int l1)]) (st2 := [.ref l0]) rfl <| zx_gR hy rfl e fun x4 _ e => zl hy 1 (pc2 := 26) (lv2 := [(0, .ref l0), (1, .int l1)]) (st2 := [.int l1, .ref x4]) rfl <| zx_aI hy (j := .baload) (Or.inr ⟨rfl, rfl⟩) rfl e fun x5 _ e => zx_sip hy (c := 255) rfl (by decide) <| zl hy 2 (pc2 := 35) (lv2 := [(0, .ref l0), (1, .int l1)]) (st2 := [.int (x5 &&& (Int32.ofInt 255))]) rfl <| zt_sub (z_fn) <| sfW_at_35 N   (x5 &&& (Int32.ofInt 255)) h _ e)))
theorem rfW_at (N : Nat) (l0 : Nat) (l1 : Int32) (h : zH) (r : Int32 × zH) (e : fW_at N l0 l1 h = some r) : fT h l0 4 = true := by
  unfold fW_at at e
  exact (cond_some e).1
/-- LyndonBench$Word.add(I)V -/
theorem mfW_add : z_me 23 zc_23 2 [] none := ⟨rfl, rfl, rfl, rfl⟩
def fW_add (N : Nat) (l0 : Nat) (l1 : Int32) (h : zH) : Option (Unit × zH) := cond (fT h l0 4) (b1 (fI h l0 4 1) fun x1 => cond (z_cmp .lt x1 (Int32.ofInt 0)) (some ((), h)) (b1 (fI h l0 4 1) fun x2 => b1 (fR h l0 4 0) fun x3 => b1 (fN h x3 101) fun x4 => cond (z_cmp .ge x2 x4) (some ((), h)) (b1 (fR h l0 4 0) fun x5 => b1 (fI h l0 4 1) fun x6 => b1 (fAS h x5 101 x6 (.int (vp_nar .byte (l1).toInt8.toInt32))) fun h7 => b1 (fI h7 l0 4 1) fun x8 => b1 (fS h7 l0 4 1 (.int (x8 + (Int32.ofInt 1)))) fun h9 => some ((), h9)))) none
theorem sfW_add {xs : List Int32} (N : Nat) (l0 : Nat) (l1 : Int32) (h : zH) (r : Unit × zH) (e : fW_add N l0 l1 h = some r) : zt xs (0) 23 0 [(0, .ref l0), (1, .int l1)] [] h 0 0 (zQ cV r) := by
  have hy := mfW_add
  unfold fW_add at e
  replace e := (cond_some e).2
  exact zl hy 1 (pc2 := 1) (lv2 := [(0, .ref l0), (1, .int l1)]) (st2 := [.ref l0]) rfl <| zx_gI hy rfl e fun x1 _ e => zx_c0 hy rfl e (fun _ e => zx_retV hy rfl rfl e) (fun _ e => zl hy 1 (pc2 := 8) (lv2 := [(0, .ref l0), (1, .int l1)]) (st2 := [.ref l0]) rfl <| zx_gI hy rfl e fun x2 _ e => zl hy 1 (pc2 := 12) (lv2 := [(0, .ref l0), (1, .int l1)]) (st2 := [.ref l0, .int x2]) rfl <| zx_gR hy rfl e fun x3 _ e => zx_len hy (Nat.le_of_ble_eq_true rfl) rfl e fun x4 _ e => zx_c hy rfl e (fun _ e => zx_retV hy rfl rfl e) (fun _ e => zl hy 1 (pc2 := 20) (lv2 := [(0, .ref l0), (1, .int l1)]) (st2 := [.ref l0]) rfl <| zx_gR hy rfl e fun x5 _ e => zl hy 1 (pc2 := 24) (lv2 := [(0, .ref l0), (1, .int l1)]) (st2 := [.ref l0, .ref x5]) rfl <| zx_gI hy rfl e fun x6 _ e => zl hy 2 (pc2 := 29) (lv2 := [(0, .ref l0), (1, .int l1)]) (st2 := [.int (l1).toInt8.toInt32, .int x6, .ref x5]) rfl <| zx_sI hy (j := .bastore) (Or.inr ⟨rfl, rfl, rfl⟩) rfl e fun h7 _ e => zl hy 2 (pc2 := 32) (lv2 := [(0, .ref l0), (1, .int l1)]) (st2 := [.ref l0, .ref l0]) rfl <| zx_gI hy rfl e fun x8 _ e => zl hy 2 (pc2 := 37) (lv2 := [(0, .ref l0), (1, .int l1)]) (st2 := [.int (x8 + (Int32.ofInt 1)), .ref l0]) rfl <| zx_pf hy rfl e (rfl) fun h9 _ e => zx_retV hy rfl rfl e))
theorem rfW_add (N : Nat) (l0 : Nat) (l1 : Int32) (h : zH) (r : Unit × zH) (e : fW_add N l0 l1 h = some r) : fT h l0 4 = true := by
  unfold fW_add at e
  exact (cond_some e).1
/-- LyndonBench$Word.addPart(LLyndonBench$Word;II)V -/
theorem mfW_addPart : z_me 25 zc_25 5 [] none := ⟨rfl, rfl, rfl, rfl⟩
def fW_addPart_3 (N : Nat) : Nat → Nat → Nat → Int32 → Int32 → zH → Option (Unit × zH)
  | 0, _, _, _, _, _ => none
  | n + 1, l0, l1, l3, l4, h => cond (z_cmp .ge l4 l3) (some ((), h)) (b2 (fW_at N l1 l4 h) fun x1 h2 => b2 (fW_add N l0 x1 h2) fun _ h4 => fW_addPart_3 N n  l0 l1 l3 (l4 + Int32.ofInt 1) h4)
theorem sfW_addPart_3 {xs : List Int32} (N : Nat)   : ∀ (n : Nat) (l0 : Nat) (l1 : Nat) (l3 : Int32) (l4 : Int32) (h : zH) (r : Unit × zH), fW_addPart_3 N n  l0 l1 l3 l4 h = some r → zt xs (1) 25 3 [(0, .ref l0), (1, .ref l1), (3, .int l3), (4, .int l4)] [] h 0 0 (zQ cV r) := by
  have hy := mfW_addPart
  intro n
  induction n with
  | zero =>
    intro l0 l1 l3 l4 h r e
    rw [fW_addPart_3] at e
    cases e
  | succ n ih =>
    intro l0 l1 l3 l4 h r e
    rw [fW_addPart_3] at e
    exact zl hy 2 (pc2 := 6) (lv2 := [(0, .ref l0), (1, .ref l1), (3, .int l3), (4, .int l4)]) (st2 := [.int l3, .int l4]) rfl <| zx_c hy rfl e (fun _ e => zx_retV hy rfl rfl e) (fun _ e => zl hy 3 (pc2 := 13) (lv2 := [(0, .ref l0), (1, .ref l1), (3, .int l3), (4, .int l4)]) (st2 := [.int l4, .ref l1, .ref l0]) rfl <| zx_call hy (as := [.ref l1, .int l4]) (rest := [.ref l0]) (ov := (fun v => some (.int v))) (fun _ => rfl) rfl rfl (Or.inl rfl) rfl rfl (Nat.le_of_ble_eq_true rfl) (Nat.le_of_ble_eq_true rfl) (fun _ e _ => z_rcvT (rfW_at N l1 l4 h _ e)) (fun _ e => zt_deep (Nat.le_of_ble_eq_true rfl) (sfW_at N l1 l4 h _ e)) e fun x1 h2 _ e => zx_call hy (as := [.ref l0, .int x1]) (rest := []) (ov := (fun _ => none)) (fun _ => rfl) rfl rfl (Or.inl rfl) rfl rfl (Nat.le_of_ble_eq_true rfl) (Nat.le_of_ble_eq_true rfl) (fun _ e _ => z_rcvT (rfW_add N l0 x1 h2 _ e)) (fun _ e => zt_deep (Nat.le_of_ble_eq_true rfl) (sfW_add N l0 x1 h2 _ e)) e fun _ h4 _ e => zl hy 2 (pc2 := 3) (lv2 := [(4, .int (l4 + Int32.ofInt 1)), (0, .ref l0), (1, .ref l1), (3, .int l3)]) (st2 := []) rfl <| zt_sub (z_fc rfl (z_fc rfl (z_fc rfl (z_fc rfl (z_fn))))) <| ih l0 l1 l3 (l4 + Int32.ofInt 1) h4 _ e)
def fW_addPart (N : Nat) (l0 : Nat) (l1 : Nat) (l2 : Int32) (l3 : Int32) (h : zH) : Option (Unit × zH) := cond (fT h l0 4) (fW_addPart_3 N N  l0 l1 l3 l2 h) none
theorem sfW_addPart {xs : List Int32} (N : Nat) (l0 : Nat) (l1 : Nat) (l2 : Int32) (l3 : Int32) (h : zH) (r : Unit × zH) (e : fW_addPart N l0 l1 l2 l3 h = some r) : zt xs (1) 25 0 [(0, .ref l0), (1, .ref l1), (2, .int l2), (3, .int l3)] [] h 0 0 (zQ cV r) := by
  have hy := mfW_addPart
  unfold fW_addPart at e
  replace e := (cond_some e).2
  exact zl hy 2 (pc2 := 3) (lv2 := [(4, .int l2), (0, .ref l0), (1, .ref l1), (2, .int l2), (3, .int l3)]) (st2 := []) rfl <| zt_sub (z_fc rfl (z_fc rfl (z_fc rfl (z_fc rfl (z_fn))))) <| sfW_addPart_3 N   N l0 l1 l3 l2 h _ e
theorem rfW_addPart (N : Nat) (l0 : Nat) (l1 : Nat) (l2 : Int32) (l3 : Int32) (h : zH) (r : Unit × zH) (e : fW_addPart N l0 l1 l2 l3 h = some r) : fT h l0 4 = true := by
  unfold fW_addPart at e
  exact (cond_some e).1
/-- LyndonBench$Word.copyFrom(LLyndonBench$Word;)V -/
theorem mfW_copyFrom : z_me 26 zc_26 2 [] none := ⟨rfl, rfl, rfl, rfl⟩
def fW_copyFrom (N : Nat) (l0 : Nat) (l1 : Nat) (h : zH) : Option (Unit × zH) := cond (fT h l0 4) (b2 (fW_clear N l0 h) fun _ h2 => b1 (fI h2 l1 4 1) fun x3 => b2 (fW_addPart N l0 l1 (Int32.ofInt 0) x3 h2) fun _ h5 => some ((), h5)) none
theorem sfW_copyFrom {xs : List Int32} (N : Nat) (l0 : Nat) (l1 : Nat) (h : zH) (r : Unit × zH) (e : fW_copyFrom N l0 l1 h = some r) : zt xs (2) 26 0 [(0, .ref l0), (1, .ref l1)] [] h 0 0 (zQ cV r) := by
  have hy := mfW_copyFrom
  unfold fW_copyFrom at e
  replace e := (cond_some e).2
  exact zl hy 1 (pc2 := 1) (lv2 := [(0, .ref l0), (1, .ref l1)]) (st2 := [.ref l0]) rfl <| zx_call hy (as := [.ref l0]) (rest := []) (ov := (fun _ => none)) (fun _ => rfl) rfl rfl (Or.inl rfl) rfl rfl (Nat.le_of_ble_eq_true rfl) (Nat.le_of_ble_eq_true rfl) (fun _ e _ => z_rcvT (rfW_clear N l0 h _ e)) (fun _ e => zt_deep (Nat.le_of_ble_eq_true rfl) (sfW_clear N l0 h _ e)) e fun _ h2 _ e => zl hy 4 (pc2 := 8) (lv2 := [(0, .ref l0), (1, .ref l1)]) (st2 := [.ref l1, .int (Int32.ofInt 0), .ref l1, .ref l0]) rfl <| zx_gI hy rfl e fun x3 _ e => zx_call hy (as := [.ref l0, .ref l1, .int (Int32.ofInt 0), .int x3]) (rest := []) (ov := (fun _ => none)) (fun _ => rfl) rfl rfl (Or.inl rfl) rfl rfl (Nat.le_of_ble_eq_true rfl) (Nat.le_of_ble_eq_true rfl) (fun _ e _ => z_rcvT (rfW_addPart N l0 l1 (Int32.ofInt 0) x3 h2 _ e)) (fun _ e => zt_deep (Nat.le_of_ble_eq_true rfl) (sfW_addPart N l0 l1 (Int32.ofInt 0) x3 h2 _ e)) e fun _ h5 _ e => zx_retV hy rfl rfl e
theorem rfW_copyFrom (N : Nat) (l0 : Nat) (l1 : Nat) (h : zH) (r : Unit × zH) (e : fW_copyFrom N l0 l1 h = some r) : fT h l0 4 = true := by
  unfold fW_copyFrom at e
  exact (cond_some e).1
/-- LyndonBench$State.keptAt(I)LLyndonBench$Word; -/
theorem mfS_keptAt : z_me 11 zc_11 2 [] (some (.object "LyndonBench$Word")) := ⟨rfl, rfl, rfl, rfl⟩
def fS_keptAt_31 (N : Nat)  (s0 : Option Nat) (h : zH) : Option (Option Nat × zH) := some (s0, h)
theorem sfS_keptAt_31 {xs : List Int32} (N : Nat)   (s0 : Option Nat) (h : zH) (r : Option Nat × zH) (e : fS_keptAt_31 N  s0 h = some r) : zt xs (0) 11 31 [] [va_rf s0] h 0 0 (zQ cO r) := by
  have hy := mfS_keptAt
  unfold fS_keptAt_31 at e
  exact (match s0, e with | none, e => zx_ret hy (v := .null) rfl rfl rfl rfl e | some _, e => zx_ret hy rfl rfl rfl rfl e)
def fS_keptAt_30 (N : Nat)   (h : zH) : Option (Option Nat × zH) := fS_keptAt_31 N  none h
theorem sfS_keptAt_30 {xs : List Int32} (N : Nat)    (h : zH) (r : Option Nat × zH) (e : fS_keptAt_30 N   h = some r) : zt xs (0) 11 30 [] [] h 0 0 (zQ cO r) := by
  have hy := mfS_keptAt
  unfold fS_keptAt_30 at e
  exact zl hy 1 (pc2 := 31) (lv2 := []) (st2 := [.null]) rfl <| zt_sub (z_fn) <| sfS_keptAt_31 N   none h _ e
def fS_keptAt (N : Nat) (l0 : Nat) (l1 : Int32) (h : zH) : Option (Option Nat × zH) := cond (fT h l0 3) (cond (z_cmp .lt l1 (Int32.ofInt 0)) (fS_keptAt_30 N   h) (b1 (fI h l0 3 3) fun x1 => cond (z_cmp .ge l1 x1) (fS_keptAt_30 N   h) (b1 (fR h l0 3 2) fun x2 => b1 (fN h x2 104) fun x3 => cond (z_cmp .ge l1 x3) (fS_keptAt_30 N   h) (b1 (fR h l0 3 2) fun x4 => b1 (fAR h x4 104 l1) fun x5 => fS_keptAt_31 N  (some x5) h)))) none
theorem sfS_keptAt {xs : List Int32} (N : Nat) (l0 : Nat) (l1 : Int32) (h : zH) (r : Option Nat × zH) (e : fS_keptAt N l0 l1 h = some r) : zt xs (0) 11 0 [(0, .ref l0), (1, .int l1)] [] h 0 0 (zQ cO r) := by
  have hy := mfS_keptAt
  unfold fS_keptAt at e
  replace e := (cond_some e).2
  exact zl hy 1 (pc2 := 1) (lv2 := [(0, .ref l0), (1, .int l1)]) (st2 := [.int l1]) rfl <| zx_c0 hy rfl e (fun _ e => zt_sub (z_fn) <| sfS_keptAt_30 N    h _ e) (fun _ e => zl hy 2 (pc2 := 6) (lv2 := [(0, .ref l0), (1, .int l1)]) (st2 := [.ref l0, .int l1]) rfl <| zx_gI hy rfl e fun x1 _ e => zx_c hy rfl e (fun _ e => zt_sub (z_fn) <| sfS_keptAt_30 N    h _ e) (fun _ e => zl hy 2 (pc2 := 14) (lv2 := [(0, .ref l0), (1, .int l1)]) (st2 := [.ref l0, .int l1]) rfl <| zx_gR hy rfl e fun x2 _ e => zx_len hy (Nat.le_of_ble_eq_true rfl) rfl e fun x3 _ e => zx_c hy rfl e (fun _ e => zt_sub (z_fn) <| sfS_keptAt_30 N    h _ e) (fun _ e => zl hy 1 (pc2 := 22) (lv2 := [(0, .ref l0), (1, .int l1)]) (st2 := [.ref l0]) rfl <| zx_gR hy rfl e fun x4 _ e => zl hy 1 (pc2 := 26) (lv2 := [(0, .ref l0), (1, .int l1)]) (st2 := [.int l1, .ref x4]) rfl <| zx_aR hy (Nat.le_of_ble_eq_true rfl) rfl e fun x5 _ e => zl hy 1 (pc2 := 31) (lv2 := [(0, .ref l0), (1, .int l1)]) (st2 := [.ref x5]) rfl <| zt_sub (z_fn) <| sfS_keptAt_31 N   (some x5) h _ e)))
theorem rfS_keptAt (N : Nat) (l0 : Nat) (l1 : Int32) (h : zH) (r : Option Nat × zH) (e : fS_keptAt N l0 l1 h = some r) : fT h l0 3 = true := by
  unfold fS_keptAt at e
  exact (cond_some e).1
/-- LyndonBench$State.keep(LLyndonBench$Word;II)V -/
theorem mfS_keep : z_me 13 zc_13 5 [] none := ⟨rfl, rfl, rfl, rfl⟩
def fS_keep (N : Nat) (l0 : Nat) (l1 : Nat) (l2 : Int32) (l3 : Int32) (h : zH) : Option (Unit × zH) := cond (fT h l0 3) (b1 (fI h l0 3 3) fun x1 => cond (z_cmp .lt x1 (Int32.ofInt 0)) (some ((), h)) (b1 (fI h l0 3 3) fun x2 => b1 (fR h l0 3 2) fun x3 => b1 (fN h x3 104) fun x4 => cond (z_cmp .lt x2 x4) (b1 (fR h l0 3 2) fun x5 => b1 (fI h l0 3 3) fun x6 => b1 (fAR h x5 104 x6) fun x7 => cond (fX h x7) (b2 (fW_clear N x7 h) fun _ h9 => b2 (fW_addPart N x7 l1 l2 l3 h9) fun _ h11 => b1 (fI h11 l0 3 3) fun x12 => b1 (fS h11 l0 3 3 (.int (x12 + (Int32.ofInt 1)))) fun h13 => some ((), h13)) none) (some ((), h)))) none
theorem sfS_keep {xs : List Int32} (N : Nat) (l0 : Nat) (l1 : Nat) (l2 : Int32) (l3 : Int32) (h : zH) (r : Unit × zH) (e : fS_keep N l0 l1 l2 l3 h = some r) : zt xs (2) 13 0 [(0, .ref l0), (1, .ref l1), (2, .int l2), (3, .int l3)] [] h 0 0 (zQ cV r) := by
  have hy := mfS_keep
  unfold fS_keep at e
  replace e := (cond_some e).2
  exact zl hy 1 (pc2 := 1) (lv2 := [(0, .ref l0), (1, .ref l1), (2, .int l2), (3, .int l3)]) (st2 := [.ref l0]) rfl <| zx_gI hy rfl e fun x1 _ e => zx_c0 hy rfl e (fun _ e => zx_retV hy rfl rfl e) (fun _ e => zl hy 1 (pc2 := 8) (lv2 := [(0, .ref l0), (1, .ref l1), (2, .int l2), (3, .int l3)]) (st2 := [.ref l0]) rfl <| zx_gI hy rfl e fun x2 _ e => zl hy 1 (pc2 := 12) (lv2 := [(0, .ref l0), (1, .ref l1), (2, .int l2), (3, .int l3)]) (st2 := [.ref l0, .int x2]) rfl <| zx_gR hy rfl e fun x3 _ e => zx_len hy (Nat.le_of_ble_eq_true rfl) rfl e fun x4 _ e => zx_c hy rfl e (fun _ e => zl hy 1 (pc2 := 21) (lv2 := [(0, .ref l0), (1, .ref l1), (2, .int l2), (3, .int l3)]) (st2 := [.ref l0]) rfl <| zx_gR hy rfl e fun x5 _ e => zl hy 1 (pc2 := 25) (lv2 := [(0, .ref l0), (1, .ref l1), (2, .int l2), (3, .int l3)]) (st2 := [.ref l0, .ref x5]) rfl <| zx_gI hy rfl e fun x6 _ e => zx_aR hy (Nat.le_of_ble_eq_true rfl) rfl e fun x7 _ e => zl hy 2 (pc2 := 33) (lv2 := [(4, .ref x7), (0, .ref l0), (1, .ref l1), (2, .int l2), (3, .int l3)]) (st2 := [.ref x7]) rfl <| zx_nullR hy rfl e fun e => zl hy 1 (pc2 := 38) (lv2 := [(4, .ref x7), (0, .ref l0), (1, .ref l1), (2, .int l2), (3, .int l3)]) (st2 := [.ref x7]) rfl <| zx_call hy (as := [.ref x7]) (rest := []) (ov := (fun _ => none)) (fun _ => rfl) rfl rfl (Or.inl rfl) rfl rfl (Nat.le_of_ble_eq_true rfl) (Nat.le_of_ble_eq_true rfl) (fun _ e _ => z_rcvT (rfW_clear N x7 h _ e)) (fun _ e => zt_deep (Nat.le_of_ble_eq_true rfl) (sfW_clear N x7 h _ e)) e fun _ h9 _ e => zl hy 4 (pc2 := 46) (lv2 := [(4, .ref x7), (0, .ref l0), (1, .ref l1), (2, .int l2), (3, .int l3)]) (st2 := [.int l3, .int l2, .ref l1, .ref x7]) rfl <| zx_call hy (as := [.ref x7, .ref l1, .int l2, .int l3]) (rest := []) (ov := (fun _ => none)) (fun _ => rfl) rfl rfl (Or.inl rfl) rfl rfl (Nat.le_of_ble_eq_true rfl) (Nat.le_of_ble_eq_true rfl) (fun _ e _ => z_rcvT (rfW_addPart N x7 l1 l2 l3 h9 _ e)) (fun _ e => zt_deep (Nat.le_of_ble_eq_true rfl) (sfW_addPart N x7 l1 l2 l3 h9 _ e)) e fun _ h11 _ e => zl hy 2 (pc2 := 51) (lv2 := [(4, .ref x7), (0, .ref l0), (1, .ref l1), (2, .int l2), (3, .int l3)]) (st2 := [.ref l0, .ref l0]) rfl <| zx_gI hy rfl e fun x12 _ e => zl hy 2 (pc2 := 56) (lv2 := [(4, .ref x7), (0, .ref l0), (1, .ref l1), (2, .int l2), (3, .int l3)]) (st2 := [.int (x12 + (Int32.ofInt 1)), .ref l0]) rfl <| zx_pf hy rfl e (rfl) fun h13 _ e => zx_retV hy rfl rfl e) (fun _ e => zx_retV hy rfl rfl e))
theorem rfS_keep (N : Nat) (l0 : Nat) (l1 : Nat) (l2 : Int32) (l3 : Int32) (h : zH) (r : Unit × zH) (e : fS_keep N l0 l1 l2 l3 h = some r) : fT h l0 3 = true := by
  unfold fS_keep at e
  exact (cond_some e).1
/-- LyndonBench$State.copyFrom(LLyndonBench$State;)V -/
theorem mfS_copyFrom : z_me 7 zc_7 4 [] none := ⟨rfl, rfl, rfl, rfl⟩
def fS_copyFrom_54 (N : Nat) (k26 : Nat → Nat → Int32 → zH → Option (Unit × zH)) (l0 : Nat) (l1 : Nat) (l2 : Int32) (h : zH) : Option (Unit × zH) := k26 l0 l1 (l2 + Int32.ofInt 1) h
theorem sfS_copyFrom_54 {xs : List Int32} (N : Nat) (k26 : Nat → Nat → Int32 → zH → Option (Unit × zH))  (hk26 : ∀ (l0 : Nat) (l1 : Nat) (l2 : Int32) (h : zH) (r : Unit × zH), k26 l0 l1 l2 h = some r → zt xs (3) 7 26 [(0, .ref l0), (1, .ref l1), (2, .int l2)] [] h 0 0 (zQ cV r)) (l0 : Nat) (l1 : Nat) (l2 : Int32) (h : zH) (r : Unit × zH) (e : fS_copyFrom_54 N k26 l0 l1 l2 h = some r) : zt xs (3) 7 54 [(0, .ref l0), (1, .ref l1), (2, .int l2)] [] h 0 0 (zQ cV r) := by
  have hy := mfS_copyFrom
  unfold fS_copyFrom_54 at e
  exact zl hy 2 (pc2 := 26) (lv2 := [(2, .int (l2 + Int32.ofInt 1)), (0, .ref l0), (1, .ref l1)]) (st2 := []) rfl <| zt_sub (z_fc rfl (z_fc rfl (z_fc rfl (z_fn)))) <| hk26 l0 l1 (l2 + Int32.ofInt 1) h _ e
def fS_copyFrom_26 (N : Nat) : Nat → Nat → Nat → Int32 → zH → Option (Unit × zH)
  | 0, _, _, _, _ => none
  | n + 1, l0, l1, l2, h => b1 (fI h l1 3 3) fun x8 => cond (z_cmp .ge l2 x8) (some ((), h)) (b2 (fS_keptAt N l1 l2 h) fun x9 h10 => (match x9 with | none => fS_copyFrom_54 N (fS_copyFrom_26 N n ) l0 l1 l2 h10 | some x11 => cond (fX h10 x11) (b1 (fI h10 x11 4 1) fun x12 => b2 (fS_keep N l0 x11 (Int32.ofInt 0) x12 h10) fun _ h14 => fS_copyFrom_54 N (fS_copyFrom_26 N n ) l0 l1 l2 h14) none))
theorem sfS_copyFrom_26 {xs : List Int32} (N : Nat)   : ∀ (n : Nat) (l0 : Nat) (l1 : Nat) (l2 : Int32) (h : zH) (r : Unit × zH), fS_copyFrom_26 N n  l0 l1 l2 h = some r → zt xs (3) 7 26 [(0, .ref l0), (1, .ref l1), (2, .int l2)] [] h 0 0 (zQ cV r) := by
  have hy := mfS_copyFrom
  intro n
  induction n with
  | zero =>
    intro l0 l1 l2 h r e
    rw [fS_copyFrom_26] at e
    cases e
  | succ n ih =>
    intro l0 l1 l2 h r e
    rw [fS_copyFrom_26] at e
    exact zl hy 2 (pc2 := 28) (lv2 := [(0, .ref l0), (1, .ref l1), (2, .int l2)]) (st2 := [.ref l1, .int l2]) rfl <| zx_gI hy rfl e fun x8 _ e => zx_c hy rfl e (fun _ e => zx_retV hy rfl rfl e) (fun _ e => zl hy 2 (pc2 := 36) (lv2 := [(0, .ref l0), (1, .ref l1), (2, .int l2)]) (st2 := [.int l2, .ref l1]) rfl <| zx_call hy (as := [.ref l1, .int l2]) (rest := []) (ov := (fun v => some (va_rf v))) (fun _ => rfl) rfl rfl (Or.inl rfl) rfl rfl (Nat.le_of_ble_eq_true rfl) (Nat.le_of_ble_eq_true rfl) (fun _ e _ => z_rcvT (rfS_keptAt N l1 l2 h _ e)) (fun _ e => zt_deep (Nat.le_of_ble_eq_true rfl) (sfS_keptAt N l1 l2 h _ e)) e fun x9 h10 _ e => (match x9, e with | none, e => zl hy 2 (pc2 := 41) (lv2 := [(3, .null), (0, .ref l0), (1, .ref l1), (2, .int l2)]) (st2 := [.null]) rfl <| zx_nullN hy rfl <| zt_sub (z_fc rfl (z_fc rfl (z_fc rfl (z_fn)))) <| sfS_copyFrom_54 N (fS_copyFrom_26 N n ) ih l0 l1 l2 h10 _ e | some x11, e => zl hy 2 (pc2 := 41) (lv2 := [(3, .ref x11), (0, .ref l0), (1, .ref l1), (2, .int l2)]) (st2 := [.ref x11]) rfl <| zx_nullR hy rfl e fun e => zl hy 4 (pc2 := 48) (lv2 := [(3, .ref x11), (0, .ref l0), (1, .ref l1), (2, .int l2)]) (st2 := [.ref x11, .int (Int32.ofInt 0), .ref x11, .ref l0]) rfl <| zx_gI hy rfl e fun x12 _ e => zx_call hy (as := [.ref l0, .ref x11, .int (Int32.ofInt 0), .int x12]) (rest := []) (ov := (fun _ => none)) (fun _ => rfl) rfl rfl (Or.inl rfl) rfl rfl (Nat.le_of_ble_eq_true rfl) (Nat.le_of_ble_eq_true rfl) (fun _ e _ => z_rcvT (rfS_keep N l0 x11 (Int32.ofInt 0) x12 h10 _ e)) (fun _ e => zt_deep (Nat.le_of_ble_eq_true rfl) (sfS_keep N l0 x11 (Int32.ofInt 0) x12 h10 _ e)) e fun _ h14 _ e => zt_sub (z_fc rfl (z_fc rfl (z_fc rfl (z_fn)))) <| sfS_copyFrom_54 N (fS_copyFrom_26 N n ) ih l0 l1 l2 h14 _ e))
def fS_copyFrom (N : Nat) (l0 : Nat) (l1 : Nat) (h : zH) : Option (Unit × zH) := cond (fT h l0 3) (b1 (fI h l1 3 0) fun x1 => b1 (fS h l0 3 0 (.int x1)) fun h2 => b1 (fR h2 l0 3 1) fun x3 => b1 (fR h2 l1 3 1) fun x4 => b2 (fW_copyFrom N x3 x4 h2) fun _ h6 => b1 (fS h6 l0 3 3 (.int (Int32.ofInt 0))) fun h7 => fS_copyFrom_26 N N  l0 l1 (Int32.ofInt 0) h7) none
theorem sfS_copyFrom {xs : List Int32} (N : Nat) (l0 : Nat) (l1 : Nat) (h : zH) (r : Unit × zH) (e : fS_copyFrom N l0 l1 h = some r) : zt xs (3) 7 0 [(0, .ref l0), (1, .ref l1)] [] h 0 0 (zQ cV r) := by
  have hy := mfS_copyFrom
  unfold fS_copyFrom at e
  replace e := (cond_some e).2
  exact zl hy 2 (pc2 := 2) (lv2 := [(0, .ref l0), (1, .ref l1)]) (st2 := [.ref l1, .ref l0]) rfl <| zx_gI hy rfl e fun x1 _ e => zx_pf hy rfl e (rfl) fun h2 _ e => zl hy 1 (pc2 := 9) (lv2 := [(0, .ref l0), (1, .ref l1)]) (st2 := [.ref l0]) rfl <| zx_gR hy rfl e fun x3 _ e => zl hy 1 (pc2 := 13) (lv2 := [(0, .ref l0), (1, .ref l1)]) (st2 := [.ref l1, .ref x3]) rfl <| zx_gR hy rfl e fun x4 _ e => zx_call hy (as := [.ref x3, .ref x4]) (rest := []) (ov := (fun _ => none)) (fun _ => rfl) rfl rfl (Or.inl rfl) rfl rfl (Nat.le_of_ble_eq_true rfl) (Nat.le_of_ble_eq_true rfl) (fun _ e _ => z_rcvT (rfW_copyFrom N x3 x4 h2 _ e)) (fun _ e => zt_deep (Nat.le_of_ble_eq_true rfl) (sfW_copyFrom N x3 x4 h2 _ e)) e fun _ h6 _ e => zl hy 2 (pc2 := 21) (lv2 := [(0, .ref l0), (1, .ref l1)]) (st2 := [.int (Int32.ofInt 0), .ref l0]) rfl <| zx_pf hy rfl e (rfl) fun h7 _ e => zl hy 2 (pc2 := 26) (lv2 := [(2, .int (Int32.ofInt 0)), (0, .ref l0), (1, .ref l1)]) (st2 := []) rfl <| zt_sub (z_fc rfl (z_fc rfl (z_fc rfl (z_fn)))) <| sfS_copyFrom_26 N   N l0 l1 (Int32.ofInt 0) h7 _ e
theorem rfS_copyFrom (N : Nat) (l0 : Nat) (l1 : Nat) (h : zH) (r : Unit × zH) (e : fS_copyFrom N l0 l1 h = some r) : fT h l0 3 = true := by
  unfold fS_copyFrom at e
  exact (cond_some e).1
/-- LyndonBench$History.remember(LLyndonBench$State;)V -/
theorem mfH_remember : z_me 1 zc_1 2 [] none := ⟨rfl, rfl, rfl, rfl⟩
def fH_remember_16 (N : Nat)  (l0 : Nat) (l1 : Nat) (h : zH) : Option (Unit × zH) := b1 (fI h l0 1 1) fun x4 => cond (z_cmp .lt x4 (Int32.ofInt 0)) (some ((), h)) (b1 (fI h l0 1 1) fun x5 => b1 (fR h l0 1 0) fun x6 => b1 (fN h x6 105) fun x7 => cond (z_cmp .ge x5 x7) (some ((), h)) (b1 (fR h l0 1 0) fun x8 => b1 (fI h l0 1 1) fun x9 => b1 (fAR h x8 105 x9) fun x10 => cond (fX h x10) (b1 (fR h l0 1 0) fun x11 => b1 (fI h l0 1 1) fun x12 => b1 (fAR h x11 105 x12) fun x13 => b2 (fS_copyFrom N x13 l1 h) fun _ h15 => b1 (fI h15 l0 1 1) fun x16 => b1 (fS h15 l0 1 1 (.int (x16 + (Int32.ofInt 1)))) fun h17 => some ((), h17)) none))
theorem sfH_remember_16 {xs : List Int32} (N : Nat)   (l0 : Nat) (l1 : Nat) (h : zH) (r : Unit × zH) (e : fH_remember_16 N  l0 l1 h = some r) : zt xs (4) 1 16 [(0, .ref l0), (1, .ref l1)] [] h 0 0 (zQ cV r) := by
  have hy := mfH_remember
  unfold fH_remember_16 at e
  exact zl hy 1 (pc2 := 17) (lv2 := [(0, .ref l0), (1, .ref l1)]) (st2 := [.ref l0]) rfl <| zx_gI hy rfl e fun x4 _ e => zx_c0 hy rfl e (fun _ e => zx_retV hy rfl rfl e) (fun _ e => zl hy 1 (pc2 := 24) (lv2 := [(0, .ref l0), (1, .ref l1)]) (st2 := [.ref l0]) rfl <| zx_gI hy rfl e fun x5 _ e => zl hy 1 (pc2 := 28) (lv2 := [(0, .ref l0), (1, .ref l1)]) (st2 := [.ref l0, .int x5]) rfl <| zx_gR hy rfl e fun x6 _ e => zx_len hy (Nat.le_of_ble_eq_true rfl) rfl e fun x7 _ e => zx_c hy rfl e (fun _ e => zx_retV hy rfl rfl e) (fun _ e => zl hy 1 (pc2 := 36) (lv2 := [(0, .ref l0), (1, .ref l1)]) (st2 := [.ref l0]) rfl <| zx_gR hy rfl e fun x8 _ e => zl hy 1 (pc2 := 40) (lv2 := [(0, .ref l0), (1, .ref l1)]) (st2 := [.ref l0, .ref x8]) rfl <| zx_gI hy rfl e fun x9 _ e => zx_aR hy (Nat.le_of_ble_eq_true rfl) rfl e fun x10 _ e => zx_nullR hy rfl e fun e => zl hy 1 (pc2 := 48) (lv2 := [(0, .ref l0), (1, .ref l1)]) (st2 := [.ref l0]) rfl <| zx_gR hy rfl e fun x11 _ e => zl hy 1 (pc2 := 52) (lv2 := [(0, .ref l0), (1, .ref l1)]) (st2 := [.ref l0, .ref x11]) rfl <| zx_gI hy rfl e fun x12 _ e => zx_aR hy (Nat.le_of_ble_eq_true rfl) rfl e fun x13 _ e => zl hy 1 (pc2 := 57) (lv2 := [(0, .ref l0), (1, .ref l1)]) (st2 := [.ref l1, .ref x13]) rfl <| zx_call hy (as := [.ref x13, .ref l1]) (rest := []) (ov := (fun _ => none)) (fun _ => rfl) rfl rfl (Or.inl rfl) rfl rfl (Nat.le_of_ble_eq_true rfl) (Nat.le_of_ble_eq_true rfl) (fun _ e _ => z_rcvT (rfS_copyFrom N x13 l1 h _ e)) (fun _ e => zt_deep (Nat.le_of_ble_eq_true rfl) (sfS_copyFrom N x13 l1 h _ e)) e fun _ h15 _ e => zl hy 2 (pc2 := 62) (lv2 := [(0, .ref l0), (1, .ref l1)]) (st2 := [.ref l0, .ref l0]) rfl <| zx_gI hy rfl e fun x16 _ e => zl hy 2 (pc2 := 67) (lv2 := [(0, .ref l0), (1, .ref l1)]) (st2 := [.int (x16 + (Int32.ofInt 1)), .ref l0]) rfl <| zx_pf hy rfl e (rfl) fun h17 _ e => zx_retV hy rfl rfl e))
def fH_remember (N : Nat) (l0 : Nat) (l1 : Nat) (h : zH) : Option (Unit × zH) := cond (fT h l0 1) (b1 (fI h l0 1 1) fun x1 => b1 (fR h l0 1 0) fun x2 => b1 (fN h x2 105) fun x3 => cond (z_cmp .lt x1 x3) (fH_remember_16 N  l0 l1 h) (b2 (fH_forgetOldest N l0 h) fun _ h5 => fH_remember_16 N  l0 l1 h5)) none
theorem sfH_remember {xs : List Int32} (N : Nat) (l0 : Nat) (l1 : Nat) (h : zH) (r : Unit × zH) (e : fH_remember N l0 l1 h = some r) : zt xs (4) 1 0 [(0, .ref l0), (1, .ref l1)] [] h 0 0 (zQ cV r) := by
  have hy := mfH_remember
  unfold fH_remember at e
  replace e := (cond_some e).2
  exact zl hy 1 (pc2 := 1) (lv2 := [(0, .ref l0), (1, .ref l1)]) (st2 := [.ref l0]) rfl <| zx_gI hy rfl e fun x1 _ e => zl hy 1 (pc2 := 5) (lv2 := [(0, .ref l0), (1, .ref l1)]) (st2 := [.ref l0, .int x1]) rfl <| zx_gR hy rfl e fun x2 _ e => zx_len hy (Nat.le_of_ble_eq_true rfl) rfl e fun x3 _ e => zx_c hy rfl e (fun _ e => zt_sub (z_fc rfl (z_fc rfl (z_fn))) <| sfH_remember_16 N   l0 l1 h _ e) (fun _ e => zl hy 1 (pc2 := 13) (lv2 := [(0, .ref l0), (1, .ref l1)]) (st2 := [.ref l0]) rfl <| zx_call hy (as := [.ref l0]) (rest := []) (ov := (fun _ => none)) (fun _ => rfl) rfl rfl (Or.inl rfl) rfl rfl (Nat.le_of_ble_eq_true rfl) (Nat.le_of_ble_eq_true rfl) (fun _ e _ => z_rcvT (rfH_forgetOldest N l0 h _ e)) (fun _ e => zt_deep (Nat.le_of_ble_eq_true rfl) (sfH_forgetOldest N l0 h _ e)) e fun _ h5 _ e => zt_sub (z_fc rfl (z_fc rfl (z_fn))) <| sfH_remember_16 N   l0 l1 h5 _ e)
theorem rfH_remember (N : Nat) (l0 : Nat) (l1 : Nat) (h : zH) (r : Unit × zH) (e : fH_remember N l0 l1 h = some r) : fT h l0 1 = true := by
  unfold fH_remember at e
  exact (cond_some e).1
/-- LyndonBench$History.bringBack(LLyndonBench$State;)Z -/
theorem mfH_bringBack : z_me 3 zc_3 2 [] (some .boolean) := ⟨rfl, rfl, rfl, rfl⟩
def fH_bringBack_34 (N : Nat)   (h : zH) : Option (Int32 × zH) := some ((Int32.ofInt 0), h)
theorem sfH_bringBack_34 {xs : List Int32} (N : Nat)    (h : zH) (r : Int32 × zH) (e : fH_bringBack_34 N   h = some r) : zt xs (4) 3 34 [] [] h 0 0 (zQ cI r) := by
  have hy := mfH_bringBack
  unfold fH_bringBack_34 at e
  exact zl hy 1 (pc2 := 35) (lv2 := []) (st2 := [.int (Int32.ofInt 0)]) rfl <| zx_ret hy (v := .int (Int32.ofInt 0)) rfl rfl (by decide) rfl e
def fH_bringBack (N : Nat) (l0 : Nat) (l1 : Nat) (h : zH) : Option (Int32 × zH) := cond (fT h l0 1) (b1 (fI h l0 1 1) fun x1 => cond (z_cmp .lt x1 (Int32.ofInt 1)) (fH_bringBack_34 N   h) (b1 (fI h l0 1 1) fun x2 => b1 (fR h l0 1 0) fun x3 => b1 (fN h x3 105) fun x4 => cond (z_cmp .gt x2 x4) (fH_bringBack_34 N   h) (b1 (fR h l0 1 0) fun x5 => b1 (fI h l0 1 1) fun x6 => b1 (fAR h x5 105 (x6 - (Int32.ofInt 1))) fun x7 => cond (fX h x7) (b1 (fI h l0 1 1) fun x8 => b1 (fS h l0 1 1 (.int (x8 - (Int32.ofInt 1)))) fun h9 => b1 (fR h9 l0 1 0) fun x10 => b1 (fI h9 l0 1 1) fun x11 => b1 (fAR h9 x10 105 x11) fun x12 => b2 (fS_copyFrom N l1 x12 h9) fun _ h14 => some ((Int32.ofInt 1), h14)) none))) none
theorem sfH_bringBack {xs : List Int32} (N : Nat) (l0 : Nat) (l1 : Nat) (h : zH) (r : Int32 × zH) (e : fH_bringBack N l0 l1 h = some r) : zt xs (4) 3 0 [(0, .ref l0), (1, .ref l1)] [] h 0 0 (zQ cI r) := by
  have hy := mfH_bringBack
  unfold fH_bringBack at e
  replace e := (cond_some e).2
  exact zl hy 1 (pc2 := 1) (lv2 := [(0, .ref l0), (1, .ref l1)]) (st2 := [.ref l0]) rfl <| zx_gI hy rfl e fun x1 _ e => zl hy 1 (pc2 := 5) (lv2 := [(0, .ref l0), (1, .ref l1)]) (st2 := [.int (Int32.ofInt 1), .int x1]) rfl <| zx_c hy rfl e (fun _ e => zt_sub (z_fn) <| sfH_bringBack_34 N    h _ e) (fun _ e => zl hy 1 (pc2 := 9) (lv2 := [(0, .ref l0), (1, .ref l1)]) (st2 := [.ref l0]) rfl <| zx_gI hy rfl e fun x2 _ e => zl hy 1 (pc2 := 13) (lv2 := [(0, .ref l0), (1, .ref l1)]) (st2 := [.ref l0, .int x2]) rfl <| zx_gR hy rfl e fun x3 _ e => zx_len hy (Nat.le_of_ble_eq_true rfl) rfl e fun x4 _ e => zx_c hy rfl e (fun _ e => zt_sub (z_fn) <| sfH_bringBack_34 N    h _ e) (fun _ e => zl hy 1 (pc2 := 21) (lv2 := [(0, .ref l0), (1, .ref l1)]) (st2 := [.ref l0]) rfl <| zx_gR hy rfl e fun x5 _ e => zl hy 1 (pc2 := 25) (lv2 := [(0, .ref l0), (1, .ref l1)]) (st2 := [.ref l0, .ref x5]) rfl <| zx_gI hy rfl e fun x6 _ e => zl hy 2 (pc2 := 30) (lv2 := [(0, .ref l0), (1, .ref l1)]) (st2 := [.int (x6 - (Int32.ofInt 1)), .ref x5]) rfl <| zx_aR hy (Nat.le_of_ble_eq_true rfl) rfl e fun x7 _ e => zx_nonnullR hy rfl e fun e => zl hy 2 (pc2 := 38) (lv2 := [(0, .ref l0), (1, .ref l1)]) (st2 := [.ref l0, .ref l0]) rfl <| zx_gI hy rfl e fun x8 _ e => zl hy 2 (pc2 := 43) (lv2 := [(0, .ref l0), (1, .ref l1)]) (st2 := [.int (x8 - (Int32.ofInt 1)), .ref l0]) rfl <| zx_pf hy rfl e (rfl) fun h9 _ e => zl hy 2 (pc2 := 48) (lv2 := [(0, .ref l0), (1, .ref l1)]) (st2 := [.ref l0, .ref l1]) rfl <| zx_gR hy rfl e fun x10 _ e => zl hy 1 (pc2 := 52) (lv2 := [(0, .ref l0), (1, .ref l1)]) (st2 := [.ref l0, .ref x10, .ref l1]) rfl <| zx_gI hy rfl e fun x11 _ e => zx_aR hy (Nat.le_of_ble_eq_true rfl) rfl e fun x12 _ e => zx_call hy (as := [.ref l1, .ref x12]) (rest := []) (ov := (fun _ => none)) (fun _ => rfl) rfl rfl (Or.inl rfl) rfl rfl (Nat.le_of_ble_eq_true rfl) (Nat.le_of_ble_eq_true rfl) (fun _ e _ => z_rcvT (rfS_copyFrom N l1 x12 h9 _ e)) (fun _ e => zt_deep (Nat.le_of_ble_eq_true rfl) (sfS_copyFrom N l1 x12 h9 _ e)) e fun _ h14 _ e => zl hy 1 (pc2 := 60) (lv2 := [(0, .ref l0), (1, .ref l1)]) (st2 := [.int (Int32.ofInt 1)]) rfl <| zx_ret hy (v := .int (Int32.ofInt 1)) rfl rfl (by decide) rfl e))
theorem rfH_bringBack (N : Nat) (l0 : Nat) (l1 : Nat) (h : zH) (r : Int32 × zH) (e : fH_bringBack N l0 l1 h = some r) : fT h l0 1 = true := by
  unfold fH_bringBack at e
  exact (cond_some e).1
/-- LyndonBench$State.clear(I)V -/
theorem mfS_clear : z_me 6 zc_6 2 [] none := ⟨rfl, rfl, rfl, rfl⟩
def fS_clear (N : Nat) (l0 : Nat) (l1 : Int32) (h : zH) : Option (Unit × zH) := cond (fT h l0 3) (b1 (fS h l0 3 0 (.int l1)) fun h1 => b1 (fR h1 l0 3 1) fun x2 => b2 (fW_clear N x2 h1) fun _ h4 => b1 (fS h4 l0 3 3 (.int (Int32.ofInt 0))) fun h5 => some ((), h5)) none
theorem sfS_clear {xs : List Int32} (N : Nat) (l0 : Nat) (l1 : Int32) (h : zH) (r : Unit × zH) (e : fS_clear N l0 l1 h = some r) : zt xs (1) 6 0 [(0, .ref l0), (1, .int l1)] [] h 0 0 (zQ cV r) := by
  have hy := mfS_clear
  unfold fS_clear at e
  replace e := (cond_some e).2
  exact zl hy 2 (pc2 := 2) (lv2 := [(0, .ref l0), (1, .int l1)]) (st2 := [.int l1, .ref l0]) rfl <| zx_pf hy rfl e (rfl) fun h1 _ e => zl hy 1 (pc2 := 6) (lv2 := [(0, .ref l0), (1, .int l1)]) (st2 := [.ref l0]) rfl <| zx_gR hy rfl e fun x2 _ e => zx_call hy (as := [.ref x2]) (rest := []) (ov := (fun _ => none)) (fun _ => rfl) rfl rfl (Or.inl rfl) rfl rfl (Nat.le_of_ble_eq_true rfl) (Nat.le_of_ble_eq_true rfl) (fun _ e _ => z_rcvT (rfW_clear N x2 h1 _ e)) (fun _ e => zt_deep (Nat.le_of_ble_eq_true rfl) (sfW_clear N x2 h1 _ e)) e fun _ h4 _ e => zl hy 2 (pc2 := 14) (lv2 := [(0, .ref l0), (1, .int l1)]) (st2 := [.int (Int32.ofInt 0), .ref l0]) rfl <| zx_pf hy rfl e (rfl) fun h5 _ e => zx_retV hy rfl rfl e
theorem rfS_clear (N : Nat) (l0 : Nat) (l1 : Int32) (h : zH) (r : Unit × zH) (e : fS_clear N l0 l1 h = some r) : fT h l0 3 = true := by
  unfold fS_clear at e
  exact (cond_some e).1
/-- LyndonBench$State.isLetter(I)Z -/
theorem mfS_isLetter : z_me 8 zc_8 2 [] (some .boolean) := ⟨rfl, rfl, rfl, rfl⟩
def fS_isLetter_22 (N : Nat)  (s0 : Int32) (h : zH) : Option (Int32 × zH) := cond (decide (s0 = Int32.ofInt 0) || decide (s0 = Int32.ofInt 1)) (some (s0, h)) none
theorem sfS_isLetter_22 {xs : List Int32} (N : Nat)   (s0 : Int32) (h : zH) (r : Int32 × zH) (e : fS_isLetter_22 N  s0 h = some r) : zt xs (0) 8 22 [] [.int s0] h 0 0 (zQ cI r) := by
  have hy := mfS_isLetter
  unfold fS_isLetter_22 at e
  exact zx_retB hy rfl rfl e
def fS_isLetter_21 (N : Nat)   (h : zH) : Option (Int32 × zH) := fS_isLetter_22 N  (Int32.ofInt 0) h
theorem sfS_isLetter_21 {xs : List Int32} (N : Nat)    (h : zH) (r : Int32 × zH) (e : fS_isLetter_21 N   h = some r) : zt xs (0) 8 21 [] [] h 0 0 (zQ cI r) := by
  have hy := mfS_isLetter
  unfold fS_isLetter_21 at e
  exact zl hy 1 (pc2 := 22) (lv2 := []) (st2 := [.int (Int32.ofInt 0)]) rfl <| zt_sub (z_fn) <| sfS_isLetter_22 N   (Int32.ofInt 0) h _ e
def fS_isLetter (N : Nat) (l0 : Nat) (l1 : Int32) (h : zH) : Option (Int32 × zH) := cond (fT h l0 3) (cond (z_cmp .lt l1 (Int32.ofInt 97)) (fS_isLetter_21 N   h) (b1 (fI h l0 3 0) fun x1 => cond (z_cmp .ge l1 ((Int32.ofInt 97) + x1)) (fS_isLetter_21 N   h) (fS_isLetter_22 N  (Int32.ofInt 1) h))) none
theorem sfS_isLetter {xs : List Int32} (N : Nat) (l0 : Nat) (l1 : Int32) (h : zH) (r : Int32 × zH) (e : fS_isLetter N l0 l1 h = some r) : zt xs (0) 8 0 [(0, .ref l0), (1, .int l1)] [] h 0 0 (zQ cI r) := by
  have hy := mfS_isLetter
  unfold fS_isLetter at e
  replace e := (cond_some e).2
  exact zl hy 1 (pc2 := 1) (lv2 := [(0, .ref l0), (1, .int l1)]) (st2 := [.int l1]) rfl <| zx_bip hy (c := 97) rfl (by decide) <| zx_c hy rfl e (fun _ e => zt_sub (z_fn) <| sfS_isLetter_21 N    h _ e) (fun _ e => zl hy 1 (pc2 := 7) (lv2 := [(0, .ref l0), (1, .int l1)]) (st2 := [.int l1]) rfl <| zx_bip hy (c := 97) rfl (by decide) <| zl hy 1 (pc2 := 10) (lv2 := [(0, .ref l0), (1, .int l1)]) (st2 := [.ref l0, .int (Int32.ofInt 97), .int l1]) rfl <| zx_gI hy rfl e fun x1 _ e => zl hy 1 (pc2 := 14) (lv2 := [(0, .ref l0), (1, .int l1)]) (st2 := [.int ((Int32.ofInt 97) + x1), .int l1]) rfl <| zx_c hy rfl e (fun _ e => zt_sub (z_fn) <| sfS_isLetter_21 N    h _ e) (fun _ e => zl hy 2 (pc2 := 22) (lv2 := [(0, .ref l0), (1, .int l1)]) (st2 := [.int (Int32.ofInt 1)]) rfl <| zt_sub (z_fn) <| sfS_isLetter_22 N   (Int32.ofInt 1) h _ e))
theorem rfS_isLetter (N : Nat) (l0 : Nat) (l1 : Int32) (h : zH) (r : Int32 × zH) (e : fS_isLetter N l0 l1 h = some r) : fT h l0 3 = true := by
  unfold fS_isLetter at e
  exact (cond_some e).1
/-- LyndonBench$State.greatestLetter()I -/
theorem mfS_greatestLetter : z_me 9 zc_9 1 [] (some .int) := ⟨rfl, rfl, rfl, rfl⟩
def fS_greatestLetter (N : Nat) (l0 : Nat) (h : zH) : Option (Int32 × zH) := cond (fT h l0 3) (b1 (fI h l0 3 0) fun x1 => some ((((Int32.ofInt 97) + x1) - (Int32.ofInt 1)), h)) none
theorem sfS_greatestLetter {xs : List Int32} (N : Nat) (l0 : Nat) (h : zH) (r : Int32 × zH) (e : fS_greatestLetter N l0 h = some r) : zt xs (0) 9 0 [(0, .ref l0)] [] h 0 0 (zQ cI r) := by
  have hy := mfS_greatestLetter
  unfold fS_greatestLetter at e
  replace e := (cond_some e).2
  exact zx_bip hy (c := 97) rfl (by decide) <| zl hy 1 (pc2 := 3) (lv2 := [(0, .ref l0)]) (st2 := [.ref l0, .int (Int32.ofInt 97)]) rfl <| zx_gI hy rfl e fun x1 _ e => zl hy 3 (pc2 := 9) (lv2 := [(0, .ref l0)]) (st2 := [.int (((Int32.ofInt 97) + x1) - (Int32.ofInt 1))]) rfl <| zx_ret hy rfl rfl rfl rfl e
theorem rfS_greatestLetter (N : Nat) (l0 : Nat) (h : zH) (r : Int32 × zH) (e : fS_greatestLetter N l0 h = some r) : fT h l0 3 = true := by
  unfold fS_greatestLetter at e
  exact (cond_some e).1
/-- LyndonBench$Word.fitsLetters(I)Z -/
theorem mfW_fitsLetters : z_me 31 zc_31 3 [] (some .boolean) := ⟨rfl, rfl, rfl, rfl⟩
def fW_fitsLetters_2 (N : Nat) : Nat → Nat → Int32 → Int32 → zH → Option (Int32 × zH)
  | 0, _, _, _, _ => none
  | n + 1, l0, l1, l2, h => b1 (fI h l0 4 1) fun x1 => cond (z_cmp .ge l2 x1) (some ((Int32.ofInt 1), h)) (b2 (fW_at N l0 l2 h) fun x2 h3 => cond (z_cmp .lt x2 ((Int32.ofInt 97) + l1)) (fW_fitsLetters_2 N n  l0 l1 (l2 + Int32.ofInt 1) h3) (some ((Int32.ofInt 0), h3)))
theorem sfW_fitsLetters_2 {xs : List Int32} (N : Nat)   : ∀ (n : Nat) (l0 : Nat) (l1 : Int32) (l2 : Int32) (h : zH) (r : Int32 × zH), fW_fitsLetters_2 N n  l0 l1 l2 h = some r → zt xs (1) 31 2 [(0, .ref l0), (1, .int l1), (2, .int l2)] [] h 0 0 (zQ cI r) := by
  have hy := mfW_fitsLetters
  intro n
  induction n with
  | zero =>
    intro l0 l1 l2 h r e
    rw [fW_fitsLetters_2] at e
    cases e
  | succ n ih =>
    intro l0 l1 l2 h r e
    rw [fW_fitsLetters_2] at e
    exact zl hy 2 (pc2 := 4) (lv2 := [(0, .ref l0), (1, .int l1), (2, .int l2)]) (st2 := [.ref l0, .int l2]) rfl <| zx_gI hy rfl e fun x1 _ e => zx_c hy rfl e (fun _ e => zl hy 1 (pc2 := 31) (lv2 := [(0, .ref l0), (1, .int l1), (2, .int l2)]) (st2 := [.int (Int32.ofInt 1)]) rfl <| zx_ret hy (v := .int (Int32.ofInt 1)) rfl rfl (by decide) rfl e) (fun _ e => zl hy 2 (pc2 := 12) (lv2 := [(0, .ref l0), (1, .int l1), (2, .int l2)]) (st2 := [.int l2, .ref l0]) rfl <| zx_call hy (as := [.ref l0, .int l2]) (rest := []) (ov := (fun v => some (.int v))) (fun _ => rfl) rfl rfl (Or.inl rfl) rfl rfl (Nat.le_of_ble_eq_true rfl) (Nat.le_of_ble_eq_true rfl) (fun _ e _ => z_rcvT (rfW_at N l0 l2 h _ e)) (fun _ e => zt_deep (Nat.le_of_ble_eq_true rfl) (sfW_at N l0 l2 h _ e)) e fun x2 h3 _ e => zx_bip hy (c := 97) rfl (by decide) <| zl hy 2 (pc2 := 19) (lv2 := [(0, .ref l0), (1, .int l1), (2, .int l2)]) (st2 := [.int ((Int32.ofInt 97) + l1), .int x2]) rfl <| zx_c hy rfl e (fun _ e => zl hy 2 (pc2 := 2) (lv2 := [(2, .int (l2 + Int32.ofInt 1)), (0, .ref l0), (1, .int l1)]) (st2 := []) rfl <| zt_sub (z_fc rfl (z_fc rfl (z_fc rfl (z_fn)))) <| ih l0 l1 (l2 + Int32.ofInt 1) h3 _ e) (fun _ e => zl hy 1 (pc2 := 23) (lv2 := [(0, .ref l0), (1, .int l1), (2, .int l2)]) (st2 := [.int (Int32.ofInt 0)]) rfl <| zx_ret hy (v := .int (Int32.ofInt 0)) rfl rfl (by decide) rfl e))
def fW_fitsLetters (N : Nat) (l0 : Nat) (l1 : Int32) (h : zH) : Option (Int32 × zH) := cond (fT h l0 4) (fW_fitsLetters_2 N N  l0 l1 (Int32.ofInt 0) h) none
theorem sfW_fitsLetters {xs : List Int32} (N : Nat) (l0 : Nat) (l1 : Int32) (h : zH) (r : Int32 × zH) (e : fW_fitsLetters N l0 l1 h = some r) : zt xs (1) 31 0 [(0, .ref l0), (1, .int l1)] [] h 0 0 (zQ cI r) := by
  have hy := mfW_fitsLetters
  unfold fW_fitsLetters at e
  replace e := (cond_some e).2
  exact zl hy 2 (pc2 := 2) (lv2 := [(2, .int (Int32.ofInt 0)), (0, .ref l0), (1, .int l1)]) (st2 := []) rfl <| zt_sub (z_fc rfl (z_fc rfl (z_fc rfl (z_fn)))) <| sfW_fitsLetters_2 N   N l0 l1 (Int32.ofInt 0) h _ e
theorem rfW_fitsLetters (N : Nat) (l0 : Nat) (l1 : Int32) (h : zH) (r : Int32 × zH) (e : fW_fitsLetters N l0 l1 h = some r) : fT h l0 4 = true := by
  unfold fW_fitsLetters at e
  exact (cond_some e).1
/-- LyndonBench$State.fitsLetters(I)Z -/
theorem mfS_fitsLetters : z_me 10 zc_10 4 [] (some .boolean) := ⟨rfl, rfl, rfl, rfl⟩
def fS_fitsLetters_30 (N : Nat) (k2 : Nat → Int32 → Int32 → zH → Option (Int32 × zH)) (l0 : Nat) (l1 : Int32) (l2 : Int32) (h : zH) : Option (Int32 × zH) := k2 l0 l1 (l2 + Int32.ofInt 1) h
theorem sfS_fitsLetters_30 {xs : List Int32} (N : Nat) (k2 : Nat → Int32 → Int32 → zH → Option (Int32 × zH))  (hk2 : ∀ (l0 : Nat) (l1 : Int32) (l2 : Int32) (h : zH) (r : Int32 × zH), k2 l0 l1 l2 h = some r → zt xs (2) 10 2 [(0, .ref l0), (1, .int l1), (2, .int l2)] [] h 0 0 (zQ cI r)) (l0 : Nat) (l1 : Int32) (l2 : Int32) (h : zH) (r : Int32 × zH) (e : fS_fitsLetters_30 N k2 l0 l1 l2 h = some r) : zt xs (2) 10 30 [(0, .ref l0), (1, .int l1), (2, .int l2)] [] h 0 0 (zQ cI r) := by
  have hy := mfS_fitsLetters
  unfold fS_fitsLetters_30 at e
  exact zl hy 2 (pc2 := 2) (lv2 := [(2, .int (l2 + Int32.ofInt 1)), (0, .ref l0), (1, .int l1)]) (st2 := []) rfl <| zt_sub (z_fc rfl (z_fc rfl (z_fc rfl (z_fn)))) <| hk2 l0 l1 (l2 + Int32.ofInt 1) h _ e
def fS_fitsLetters_2 (N : Nat) : Nat → Nat → Int32 → Int32 → zH → Option (Int32 × zH)
  | 0, _, _, _, _ => none
  | n + 1, l0, l1, l2, h => b1 (fI h l0 3 3) fun x1 => cond (z_cmp .ge l2 x1) (b1 (fR h l0 3 1) fun x2 => b2 (fW_fitsLetters N x2 l1 h) fun x3 h4 => cond (decide (x3 = Int32.ofInt 0) || decide (x3 = Int32.ofInt 1)) (some (x3, h4)) none) (b2 (fS_keptAt N l0 l2 h) fun x5 h6 => (match x5 with | none => fS_fitsLetters_30 N (fS_fitsLetters_2 N n ) l0 l1 l2 h6 | some x7 => cond (fX h6 x7) (b2 (fW_fitsLetters N x7 l1 h6) fun x8 h9 => cond (z_cmp .ne x8 (Int32.ofInt 0)) (fS_fitsLetters_30 N (fS_fitsLetters_2 N n ) l0 l1 l2 h9) (some ((Int32.ofInt 0), h9))) none))
theorem sfS_fitsLetters_2 {xs : List Int32} (N : Nat)   : ∀ (n : Nat) (l0 : Nat) (l1 : Int32) (l2 : Int32) (h : zH) (r : Int32 × zH), fS_fitsLetters_2 N n  l0 l1 l2 h = some r → zt xs (2) 10 2 [(0, .ref l0), (1, .int l1), (2, .int l2)] [] h 0 0 (zQ cI r) := by
  have hy := mfS_fitsLetters
  intro n
  induction n with
  | zero =>
    intro l0 l1 l2 h r e
    rw [fS_fitsLetters_2] at e
    cases e
  | succ n ih =>
    intro l0 l1 l2 h r e
    rw [fS_fitsLetters_2] at e
    exact zl hy 2 (pc2 := 4) (lv2 := [(0, .ref l0), (1, .int l1), (2, .int l2)]) (st2 := [.ref l0, .int l2]) rfl <| zx_gI hy rfl e fun x1 _ e => zx_c hy rfl e (fun _ e => zl hy 1 (pc2 := 37) (lv2 := [(0, .ref l0), (1, .int l1), (2, .int l2)]) (st2 := [.ref l0]) rfl <| zx_gR hy rfl e fun x2 _ e => zl hy 1 (pc2 := 41) (lv2 := [(0, .ref l0), (1, .int l1), (2, .int l2)]) (st2 := [.int l1, .ref x2]) rfl <| zx_call hy (as := [.ref x2, .int l1]) (rest := []) (ov := (fun v => some (.int v))) (fun _ => rfl) rfl rfl (Or.inl rfl) rfl rfl (Nat.le_of_ble_eq_true rfl) (Nat.le_of_ble_eq_true rfl) (fun _ e _ => z_rcvT (rfW_fitsLetters N x2 l1 h _ e)) (fun _ e => zt_deep (Nat.le_of_ble_eq_true rfl) (sfW_fitsLetters N x2 l1 h _ e)) e fun x3 h4 _ e => zx_retB hy rfl rfl e) (fun _ e => zl hy 2 (pc2 := 12) (lv2 := [(0, .ref l0), (1, .int l1), (2, .int l2)]) (st2 := [.int l2, .ref l0]) rfl <| zx_call hy (as := [.ref l0, .int l2]) (rest := []) (ov := (fun v => some (va_rf v))) (fun _ => rfl) rfl rfl (Or.inl rfl) rfl rfl (Nat.le_of_ble_eq_true rfl) (Nat.le_of_ble_eq_true rfl) (fun _ e _ => z_rcvT (rfS_keptAt N l0 l2 h _ e)) (fun _ e => zt_deep (Nat.le_of_ble_eq_true rfl) (sfS_keptAt N l0 l2 h _ e)) e fun x5 h6 _ e => (match x5, e with | none, e => zl hy 2 (pc2 := 17) (lv2 := [(3, .null), (0, .ref l0), (1, .int l1), (2, .int l2)]) (st2 := [.null]) rfl <| zx_nullN hy rfl <| zt_sub (z_fc rfl (z_fc rfl (z_fc rfl (z_fn)))) <| sfS_fitsLetters_30 N (fS_fitsLetters_2 N n ) ih l0 l1 l2 h6 _ e | some x7, e => zl hy 2 (pc2 := 17) (lv2 := [(3, .ref x7), (0, .ref l0), (1, .int l1), (2, .int l2)]) (st2 := [.ref x7]) rfl <| zx_nullR hy rfl e fun e => zl hy 2 (pc2 := 22) (lv2 := [(3, .ref x7), (0, .ref l0), (1, .int l1), (2, .int l2)]) (st2 := [.int l1, .ref x7]) rfl <| zx_call hy (as := [.ref x7, .int l1]) (rest := []) (ov := (fun v => some (.int v))) (fun _ => rfl) rfl rfl (Or.inl rfl) rfl rfl (Nat.le_of_ble_eq_true rfl) (Nat.le_of_ble_eq_true rfl) (fun _ e _ => z_rcvT (rfW_fitsLetters N x7 l1 h6 _ e)) (fun _ e => zt_deep (Nat.le_of_ble_eq_true rfl) (sfW_fitsLetters N x7 l1 h6 _ e)) e fun x8 h9 _ e => zx_c0 hy rfl e (fun _ e => zt_sub (z_fc rfl (z_fc rfl (z_fc rfl (z_fn)))) <| sfS_fitsLetters_30 N (fS_fitsLetters_2 N n ) ih l0 l1 l2 h9 _ e) (fun _ e => zl hy 1 (pc2 := 29) (lv2 := [(3, .ref x7), (0, .ref l0), (1, .int l1), (2, .int l2)]) (st2 := [.int (Int32.ofInt 0)]) rfl <| zx_ret hy (v := .int (Int32.ofInt 0)) rfl rfl (by decide) rfl e)))
def fS_fitsLetters (N : Nat) (l0 : Nat) (l1 : Int32) (h : zH) : Option (Int32 × zH) := cond (fT h l0 3) (fS_fitsLetters_2 N N  l0 l1 (Int32.ofInt 0) h) none
theorem sfS_fitsLetters {xs : List Int32} (N : Nat) (l0 : Nat) (l1 : Int32) (h : zH) (r : Int32 × zH) (e : fS_fitsLetters N l0 l1 h = some r) : zt xs (2) 10 0 [(0, .ref l0), (1, .int l1)] [] h 0 0 (zQ cI r) := by
  have hy := mfS_fitsLetters
  unfold fS_fitsLetters at e
  replace e := (cond_some e).2
  exact zl hy 2 (pc2 := 2) (lv2 := [(2, .int (Int32.ofInt 0)), (0, .ref l0), (1, .int l1)]) (st2 := []) rfl <| zt_sub (z_fc rfl (z_fc rfl (z_fc rfl (z_fn)))) <| sfS_fitsLetters_2 N   N l0 l1 (Int32.ofInt 0) h _ e
theorem rfS_fitsLetters (N : Nat) (l0 : Nat) (l1 : Int32) (h : zH) (r : Int32 × zH) (e : fS_fitsLetters N l0 l1 h = some r) : fT h l0 3 = true := by
  unfold fS_fitsLetters at e
  exact (cond_some e).1
/-- LyndonBench$State.canKeep(I)Z -/
theorem mfS_canKeep : z_me 12 zc_12 2 [] (some .boolean) := ⟨rfl, rfl, rfl, rfl⟩
def fS_canKeep_25 (N : Nat)  (s0 : Int32) (h : zH) : Option (Int32 × zH) := cond (decide (s0 = Int32.ofInt 0) || decide (s0 = Int32.ofInt 1)) (some (s0, h)) none
theorem sfS_canKeep_25 {xs : List Int32} (N : Nat)   (s0 : Int32) (h : zH) (r : Int32 × zH) (e : fS_canKeep_25 N  s0 h = some r) : zt xs (0) 12 25 [] [.int s0] h 0 0 (zQ cI r) := by
  have hy := mfS_canKeep
  unfold fS_canKeep_25 at e
  exact zx_retB hy rfl rfl e
def fS_canKeep_24 (N : Nat)   (h : zH) : Option (Int32 × zH) := fS_canKeep_25 N  (Int32.ofInt 0) h
theorem sfS_canKeep_24 {xs : List Int32} (N : Nat)    (h : zH) (r : Int32 × zH) (e : fS_canKeep_24 N   h = some r) : zt xs (0) 12 24 [] [] h 0 0 (zQ cI r) := by
  have hy := mfS_canKeep
  unfold fS_canKeep_24 at e
  exact zl hy 1 (pc2 := 25) (lv2 := []) (st2 := [.int (Int32.ofInt 0)]) rfl <| zt_sub (z_fn) <| sfS_canKeep_25 N   (Int32.ofInt 0) h _ e
def fS_canKeep (N : Nat) (l0 : Nat) (l1 : Int32) (h : zH) : Option (Int32 × zH) := cond (fT h l0 3) (cond (z_cmp .lt l1 (Int32.ofInt 1)) (fS_canKeep_24 N   h) (cond (z_cmp .gt l1 (Int32.ofInt 40)) (fS_canKeep_24 N   h) (b1 (fI h l0 3 3) fun x1 => cond (z_cmp .ge x1 (Int32.ofInt 8)) (fS_canKeep_24 N   h) (fS_canKeep_25 N  (Int32.ofInt 1) h)))) none
theorem sfS_canKeep {xs : List Int32} (N : Nat) (l0 : Nat) (l1 : Int32) (h : zH) (r : Int32 × zH) (e : fS_canKeep N l0 l1 h = some r) : zt xs (0) 12 0 [(0, .ref l0), (1, .int l1)] [] h 0 0 (zQ cI r) := by
  have hy := mfS_canKeep
  unfold fS_canKeep at e
  replace e := (cond_some e).2
  exact zl hy 2 (pc2 := 2) (lv2 := [(0, .ref l0), (1, .int l1)]) (st2 := [.int (Int32.ofInt 1), .int l1]) rfl <| zx_c hy rfl e (fun _ e => zt_sub (z_fn) <| sfS_canKeep_24 N    h _ e) (fun _ e => zl hy 1 (pc2 := 6) (lv2 := [(0, .ref l0), (1, .int l1)]) (st2 := [.int l1]) rfl <| zx_bip hy (c := 40) rfl (by decide) <| zx_c hy rfl e (fun _ e => zt_sub (z_fn) <| sfS_canKeep_24 N    h _ e) (fun _ e => zl hy 1 (pc2 := 12) (lv2 := [(0, .ref l0), (1, .int l1)]) (st2 := [.ref l0]) rfl <| zx_gI hy rfl e fun x1 _ e => zx_bip hy (c := 8) rfl (by decide) <| zx_c hy rfl e (fun _ e => zt_sub (z_fn) <| sfS_canKeep_24 N    h _ e) (fun _ e => zl hy 2 (pc2 := 25) (lv2 := [(0, .ref l0), (1, .int l1)]) (st2 := [.int (Int32.ofInt 1)]) rfl <| zt_sub (z_fn) <| sfS_canKeep_25 N   (Int32.ofInt 1) h _ e)))
theorem rfS_canKeep (N : Nat) (l0 : Nat) (l1 : Int32) (h : zH) (r : Int32 × zH) (e : fS_canKeep N l0 l1 h = some r) : fT h l0 3 = true := by
  unfold fS_canKeep at e
  exact (cond_some e).1
/-- LyndonBench$State.takeFromShelf(I)V -/
theorem mfS_takeFromShelf : z_me 14 zc_14 5 [] none := ⟨rfl, rfl, rfl, rfl⟩
def fS_takeFromShelf_42 (N : Nat) (k2 : Nat → Int32 → Int32 → zH → Option (Unit × zH)) (l0 : Nat) (l1 : Int32) (l2 : Int32) (h : zH) : Option (Unit × zH) := k2 l0 l1 (l2 + Int32.ofInt 1) h
theorem sfS_takeFromShelf_42 {xs : List Int32} (N : Nat) (k2 : Nat → Int32 → Int32 → zH → Option (Unit × zH))  (hk2 : ∀ (l0 : Nat) (l1 : Int32) (l2 : Int32) (h : zH) (r : Unit × zH), k2 l0 l1 l2 h = some r → zt xs (3) 14 2 [(0, .ref l0), (1, .int l1), (2, .int l2)] [] h 0 0 (zQ cV r)) (l0 : Nat) (l1 : Int32) (l2 : Int32) (h : zH) (r : Unit × zH) (e : fS_takeFromShelf_42 N k2 l0 l1 l2 h = some r) : zt xs (3) 14 42 [(0, .ref l0), (1, .int l1), (2, .int l2)] [] h 0 0 (zQ cV r) := by
  have hy := mfS_takeFromShelf
  unfold fS_takeFromShelf_42 at e
  exact zl hy 2 (pc2 := 2) (lv2 := [(2, .int (l2 + Int32.ofInt 1)), (0, .ref l0), (1, .int l1)]) (st2 := []) rfl <| zt_sub (z_fc rfl (z_fc rfl (z_fc rfl (z_fn)))) <| hk2 l0 l1 (l2 + Int32.ofInt 1) h _ e
def fS_takeFromShelf_2 (N : Nat) : Nat → Nat → Int32 → Int32 → zH → Option (Unit × zH)
  | 0, _, _, _, _ => none
  | n + 1, l0, l1, l2, h => b1 (fI h l0 3 3) fun x1 => cond (z_cmp .ge l2 (x1 - (Int32.ofInt 1))) (cond (z_cmp .lt l1 (Int32.ofInt 0)) (some ((), h)) (b1 (fI h l0 3 3) fun x2 => cond (z_cmp .ge l1 x2) (some ((), h)) (b1 (fI h l0 3 3) fun x3 => b1 (fS h l0 3 3 (.int (x3 - (Int32.ofInt 1)))) fun h4 => some ((), h4)))) (b2 (fS_keptAt N l0 l2 h) fun x5 h6 => (match x5 with | none => b2 (fS_keptAt N l0 (l2 + (Int32.ofInt 1)) h6) fun x8 h9 => (match x8 with | none => fS_takeFromShelf_42 N (fS_takeFromShelf_2 N n ) l0 l1 l2 h9 | some x10 => fS_takeFromShelf_42 N (fS_takeFromShelf_2 N n ) l0 l1 l2 h9) | some x7 => b2 (fS_keptAt N l0 (l2 + (Int32.ofInt 1)) h6) fun x11 h12 => (match x11 with | none => cond (fX h12 x7) (fS_takeFromShelf_42 N (fS_takeFromShelf_2 N n ) l0 l1 l2 h12) none | some x13 => cond (fX h12 x7) (cond (fX h12 x13) (b2 (fW_copyFrom N x7 x13 h12) fun _ h15 => fS_takeFromShelf_42 N (fS_takeFromShelf_2 N n ) l0 l1 l2 h15) none) none)))
theorem sfS_takeFromShelf_2 {xs : List Int32} (N : Nat)   : ∀ (n : Nat) (l0 : Nat) (l1 : Int32) (l2 : Int32) (h : zH) (r : Unit × zH), fS_takeFromShelf_2 N n  l0 l1 l2 h = some r → zt xs (3) 14 2 [(0, .ref l0), (1, .int l1), (2, .int l2)] [] h 0 0 (zQ cV r) := by
  have hy := mfS_takeFromShelf
  intro n
  induction n with
  | zero =>
    intro l0 l1 l2 h r e
    rw [fS_takeFromShelf_2] at e
    cases e
  | succ n ih =>
    intro l0 l1 l2 h r e
    rw [fS_takeFromShelf_2] at e
    exact zl hy 2 (pc2 := 4) (lv2 := [(0, .ref l0), (1, .int l1), (2, .int l2)]) (st2 := [.ref l0, .int l2]) rfl <| zx_gI hy rfl e fun x1 _ e => zl hy 2 (pc2 := 9) (lv2 := [(0, .ref l0), (1, .int l1), (2, .int l2)]) (st2 := [.int (x1 - (Int32.ofInt 1)), .int l2]) rfl <| zx_c hy rfl e (fun _ e => zl hy 1 (pc2 := 49) (lv2 := [(0, .ref l0), (1, .int l1), (2, .int l2)]) (st2 := [.int l1]) rfl <| zx_c0 hy rfl e (fun _ e => zx_retV hy rfl rfl e) (fun _ e => zl hy 2 (pc2 := 54) (lv2 := [(0, .ref l0), (1, .int l1), (2, .int l2)]) (st2 := [.ref l0, .int l1]) rfl <| zx_gI hy rfl e fun x2 _ e => zx_c hy rfl e (fun _ e => zx_retV hy rfl rfl e) (fun _ e => zl hy 2 (pc2 := 62) (lv2 := [(0, .ref l0), (1, .int l1), (2, .int l2)]) (st2 := [.ref l0, .ref l0]) rfl <| zx_gI hy rfl e fun x3 _ e => zl hy 2 (pc2 := 67) (lv2 := [(0, .ref l0), (1, .int l1), (2, .int l2)]) (st2 := [.int (x3 - (Int32.ofInt 1)), .ref l0]) rfl <| zx_pf hy rfl e (rfl) fun h4 _ e => zx_retV hy rfl rfl e))) (fun _ e => zl hy 2 (pc2 := 14) (lv2 := [(0, .ref l0), (1, .int l1), (2, .int l2)]) (st2 := [.int l2, .ref l0]) rfl <| zx_call hy (as := [.ref l0, .int l2]) (rest := []) (ov := (fun v => some (va_rf v))) (fun _ => rfl) rfl rfl (Or.inl rfl) rfl rfl (Nat.le_of_ble_eq_true rfl) (Nat.le_of_ble_eq_true rfl) (fun _ e _ => z_rcvT (rfS_keptAt N l0 l2 h _ e)) (fun _ e => zt_deep (Nat.le_of_ble_eq_true rfl) (sfS_keptAt N l0 l2 h _ e)) e fun x5 h6 _ e => (match x5, e with | none, e => zl hy 5 (pc2 := 22) (lv2 := [(3, .null), (0, .ref l0), (1, .int l1), (2, .int l2)]) (st2 := [.int (l2 + (Int32.ofInt 1)), .ref l0]) rfl <| zx_call hy (as := [.ref l0, .int (l2 + (Int32.ofInt 1))]) (rest := []) (ov := (fun v => some (va_rf v))) (fun _ => rfl) rfl rfl (Or.inl rfl) rfl rfl (Nat.le_of_ble_eq_true rfl) (Nat.le_of_ble_eq_true rfl) (fun _ e _ => z_rcvT (rfS_keptAt N l0 (l2 + (Int32.ofInt 1)) h6 _ e)) (fun _ e => zt_deep (Nat.le_of_ble_eq_true rfl) (sfS_keptAt N l0 (l2 + (Int32.ofInt 1)) h6 _ e)) e fun x8 h9 _ e => (match x8, e with | none, e => zl hy 2 (pc2 := 28) (lv2 := [(4, .null), (3, .null), (0, .ref l0), (1, .int l1), (2, .int l2)]) (st2 := [.null]) rfl <| zx_nullN hy rfl <| zt_sub (z_fc rfl (z_fc rfl (z_fc rfl (z_fn)))) <| sfS_takeFromShelf_42 N (fS_takeFromShelf_2 N n ) ih l0 l1 l2 h9 _ e | some x10, e => zl hy 2 (pc2 := 28) (lv2 := [(4, .ref x10), (3, .null), (0, .ref l0), (1, .int l1), (2, .int l2)]) (st2 := [.null]) rfl <| zx_nullN hy rfl <| zt_sub (z_fc rfl (z_fc rfl (z_fc rfl (z_fn)))) <| sfS_takeFromShelf_42 N (fS_takeFromShelf_2 N n ) ih l0 l1 l2 h9 _ e) | some x7, e => zl hy 5 (pc2 := 22) (lv2 := [(3, .ref x7), (0, .ref l0), (1, .int l1), (2, .int l2)]) (st2 := [.int (l2 + (Int32.ofInt 1)), .ref l0]) rfl <| zx_call hy (as := [.ref l0, .int (l2 + (Int32.ofInt 1))]) (rest := []) (ov := (fun v => some (va_rf v))) (fun _ => rfl) rfl rfl (Or.inl rfl) rfl rfl (Nat.le_of_ble_eq_true rfl) (Nat.le_of_ble_eq_true rfl) (fun _ e _ => z_rcvT (rfS_keptAt N l0 (l2 + (Int32.ofInt 1)) h6 _ e)) (fun _ e => zt_deep (Nat.le_of_ble_eq_true rfl) (sfS_keptAt N l0 (l2 + (Int32.ofInt 1)) h6 _ e)) e fun x11 h12 _ e => (match x11, e with | none, e => zl hy 2 (pc2 := 28) (lv2 := [(4, .null), (3, .ref x7), (0, .ref l0), (1, .int l1), (2, .int l2)]) (st2 := [.ref x7]) rfl <| zx_nullR hy rfl e fun e => zl hy 1 (pc2 := 33) (lv2 := [(4, .null), (3, .ref x7), (0, .ref l0), (1, .int l1), (2, .int l2)]) (st2 := [.null]) rfl <| zx_nullN hy rfl <| zt_sub (z_fc rfl (z_fc rfl (z_fc rfl (z_fn)))) <| sfS_takeFromShelf_42 N (fS_takeFromShelf_2 N n ) ih l0 l1 l2 h12 _ e | some x13, e => zl hy 2 (pc2 := 28) (lv2 := [(4, .ref x13), (3, .ref x7), (0, .ref l0), (1, .int l1), (2, .int l2)]) (st2 := [.ref x7]) rfl <| zx_nullR hy rfl e fun e => zl hy 1 (pc2 := 33) (lv2 := [(4, .ref x13), (3, .ref x7), (0, .ref l0), (1, .int l1), (2, .int l2)]) (st2 := [.ref x13]) rfl <| zx_nullR hy rfl e fun e => zl hy 2 (pc2 := 39) (lv2 := [(4, .ref x13), (3, .ref x7), (0, .ref l0), (1, .int l1), (2, .int l2)]) (st2 := [.ref x13, .ref x7]) rfl <| zx_call hy (as := [.ref x7, .ref x13]) (rest := []) (ov := (fun _ => none)) (fun _ => rfl) rfl rfl (Or.inl rfl) rfl rfl (Nat.le_of_ble_eq_true rfl) (Nat.le_of_ble_eq_true rfl) (fun _ e _ => z_rcvT (rfW_copyFrom N x7 x13 h12 _ e)) (fun _ e => zt_deep (Nat.le_of_ble_eq_true rfl) (sfW_copyFrom N x7 x13 h12 _ e)) e fun _ h15 _ e => zt_sub (z_fc rfl (z_fc rfl (z_fc rfl (z_fn)))) <| sfS_takeFromShelf_42 N (fS_takeFromShelf_2 N n ) ih l0 l1 l2 h15 _ e)))
def fS_takeFromShelf (N : Nat) (l0 : Nat) (l1 : Int32) (h : zH) : Option (Unit × zH) := cond (fT h l0 3) (fS_takeFromShelf_2 N N  l0 l1 l1 h) none
theorem sfS_takeFromShelf {xs : List Int32} (N : Nat) (l0 : Nat) (l1 : Int32) (h : zH) (r : Unit × zH) (e : fS_takeFromShelf N l0 l1 h = some r) : zt xs (3) 14 0 [(0, .ref l0), (1, .int l1)] [] h 0 0 (zQ cV r) := by
  have hy := mfS_takeFromShelf
  unfold fS_takeFromShelf at e
  replace e := (cond_some e).2
  exact zl hy 2 (pc2 := 2) (lv2 := [(2, .int l1), (0, .ref l0), (1, .int l1)]) (st2 := []) rfl <| zt_sub (z_fc rfl (z_fc rfl (z_fc rfl (z_fn)))) <| sfS_takeFromShelf_2 N   N l0 l1 l1 h _ e
theorem rfS_takeFromShelf (N : Nat) (l0 : Nat) (l1 : Int32) (h : zH) (r : Unit × zH) (e : fS_takeFromShelf N l0 l1 h = some r) : fT h l0 3 = true := by
  unfold fS_takeFromShelf at e
  exact (cond_some e).1
/-- LyndonBench$Word.order(IILLyndonBench$Word;II)I -/
theorem mfW_order : z_me 32 zc_32 11 [] (some .int) := ⟨rfl, rfl, rfl, rfl⟩
def fW_order_97 (N : Nat)  (s0 : Int32) (h : zH) : Option (Int32 × zH) := some (s0, h)
theorem sfW_order_97 {xs : List Int32} (N : Nat)   (s0 : Int32) (h : zH) (r : Int32 × zH) (e : fW_order_97 N  s0 h = some r) : zt xs (1) 32 97 [] [.int s0] h 0 0 (zQ cI r) := by
  have hy := mfW_order
  unfold fW_order_97 at e
  exact zx_ret hy rfl rfl rfl rfl e
def fW_order_76 (N : Nat)  (l6 : Int32) (l7 : Int32) (h : zH) : Option (Int32 × zH) := cond (z_cmp .ne l6 l7) (cond (z_cmp .ge l6 l7) (fW_order_97 N  (Int32.ofInt 1) h) (fW_order_97 N  (Int32.ofInt (-1)) h)) (some ((Int32.ofInt 0), h))
theorem sfW_order_76 {xs : List Int32} (N : Nat)   (l6 : Int32) (l7 : Int32) (h : zH) (r : Int32 × zH) (e : fW_order_76 N  l6 l7 h = some r) : zt xs (1) 32 76 [(6, .int l6), (7, .int l7)] [] h 0 0 (zQ cI r) := by
  have hy := mfW_order
  unfold fW_order_76 at e
  exact zl hy 2 (pc2 := 80) (lv2 := [(6, .int l6), (7, .int l7)]) (st2 := [.int l7, .int l6]) rfl <| zx_c hy rfl e (fun _ e => zl hy 2 (pc2 := 89) (lv2 := [(6, .int l6), (7, .int l7)]) (st2 := [.int l7, .int l6]) rfl <| zx_c hy rfl e (fun _ e => zl hy 1 (pc2 := 97) (lv2 := [(6, .int l6), (7, .int l7)]) (st2 := [.int (Int32.ofInt 1)]) rfl <| zt_sub (z_fn) <| sfW_order_97 N   (Int32.ofInt 1) h _ e) (fun _ e => zl hy 2 (pc2 := 97) (lv2 := [(6, .int l6), (7, .int l7)]) (st2 := [.int (Int32.ofInt (-1))]) rfl <| zt_sub (z_fn) <| sfW_order_97 N   (Int32.ofInt (-1)) h _ e)) (fun _ e => zl hy 1 (pc2 := 84) (lv2 := [(6, .int l6), (7, .int l7)]) (st2 := [.int (Int32.ofInt 0)]) rfl <| zx_ret hy rfl rfl rfl rfl e)
def fW_order_69 (N : Nat)  (s0 : Int32) (h : zH) : Option (Int32 × zH) := some (s0, h)
theorem sfW_order_69 {xs : List Int32} (N : Nat)   (s0 : Int32) (h : zH) (r : Int32 × zH) (e : fW_order_69 N  s0 h = some r) : zt xs (1) 32 69 [] [.int s0] h 0 0 (zQ cI r) := by
  have hy := mfW_order
  unfold fW_order_69 at e
  exact zx_ret hy rfl rfl rfl rfl e
def fW_order_15 (N : Nat) : Nat → Nat → Int32 → Nat → Int32 → Int32 → Int32 → Int32 → zH → Option (Int32 × zH)
  | 0, _, _, _, _, _, _, _, _ => none
  | n + 1, l0, l1, l3, l4, l6, l7, l8, h => cond (z_cmp .ge l8 l6) (fW_order_76 N  l6 l7 h) (cond (z_cmp .ge l8 l7) (fW_order_76 N  l6 l7 h) (b2 (fW_at N l0 (l1 + l8) h) fun x1 h2 => b2 (fW_at N l3 (l4 + l8) h2) fun x3 h4 => cond (z_cmp .eq x1 x3) (fW_order_15 N n  l0 l1 l3 l4 l6 l7 (l8 + Int32.ofInt 1) h4) (cond (z_cmp .ge x1 x3) (fW_order_69 N  (Int32.ofInt 1) h4) (fW_order_69 N  (Int32.ofInt (-1)) h4))))
theorem sfW_order_15 {xs : List Int32} (N : Nat)   : ∀ (n : Nat) (l0 : Nat) (l1 : Int32) (l3 : Nat) (l4 : Int32) (l6 : Int32) (l7 : Int32) (l8 : Int32) (h : zH) (r : Int32 × zH), fW_order_15 N n  l0 l1 l3 l4 l6 l7 l8 h = some r → zt xs (1) 32 15 [(0, .ref l0), (1, .int l1), (3, .ref l3), (4, .int l4), (6, .int l6), (7, .int l7), (8, .int l8)] [] h 0 0 (zQ cI r) := by
  have hy := mfW_order
  intro n
  induction n with
  | zero =>
    intro l0 l1 l3 l4 l6 l7 l8 h r e
    rw [fW_order_15] at e
    cases e
  | succ n ih =>
    intro l0 l1 l3 l4 l6 l7 l8 h r e
    rw [fW_order_15] at e
    exact zl hy 2 (pc2 := 19) (lv2 := [(0, .ref l0), (1, .int l1), (3, .ref l3), (4, .int l4), (6, .int l6), (7, .int l7), (8, .int l8)]) (st2 := [.int l6, .int l8]) rfl <| zx_c hy rfl e (fun _ e => zt_sub (z_fc rfl (z_fc rfl (z_fn))) <| sfW_order_76 N   l6 l7 h _ e) (fun _ e => zl hy 2 (pc2 := 26) (lv2 := [(0, .ref l0), (1, .int l1), (3, .ref l3), (4, .int l4), (6, .int l6), (7, .int l7), (8, .int l8)]) (st2 := [.int l7, .int l8]) rfl <| zx_c hy rfl e (fun _ e => zt_sub (z_fc rfl (z_fc rfl (z_fn))) <| sfW_order_76 N   l6 l7 h _ e) (fun _ e => zl hy 4 (pc2 := 34) (lv2 := [(0, .ref l0), (1, .int l1), (3, .ref l3), (4, .int l4), (6, .int l6), (7, .int l7), (8, .int l8)]) (st2 := [.int (l1 + l8), .ref l0]) rfl <| zx_call hy (as := [.ref l0, .int (l1 + l8)]) (rest := []) (ov := (fun v => some (.int v))) (fun _ => rfl) rfl rfl (Or.inl rfl) rfl rfl (Nat.le_of_ble_eq_true rfl) (Nat.le_of_ble_eq_true rfl) (fun _ e _ => z_rcvT (rfW_at N l0 (l1 + l8) h _ e)) (fun _ e => zt_deep (Nat.le_of_ble_eq_true rfl) (sfW_at N l0 (l1 + l8) h _ e)) e fun x1 h2 _ e => zl hy 5 (pc2 := 45) (lv2 := [(9, .int x1), (0, .ref l0), (1, .int l1), (3, .ref l3), (4, .int l4), (6, .int l6), (7, .int l7), (8, .int l8)]) (st2 := [.int (l4 + l8), .ref l3]) rfl <| zx_call hy (as := [.ref l3, .int (l4 + l8)]) (rest := []) (ov := (fun v => some (.int v))) (fun _ => rfl) rfl rfl (Or.inl rfl) rfl rfl (Nat.le_of_ble_eq_true rfl) (Nat.le_of_ble_eq_true rfl) (fun _ e _ => z_rcvT (rfW_at N l3 (l4 + l8) h2 _ e)) (fun _ e => zt_deep (Nat.le_of_ble_eq_true rfl) (sfW_at N l3 (l4 + l8) h2 _ e)) e fun x3 h4 _ e => zl hy 3 (pc2 := 54) (lv2 := [(10, .int x3), (9, .int x1), (0, .ref l0), (1, .int l1), (3, .ref l3), (4, .int l4), (6, .int l6), (7, .int l7), (8, .int l8)]) (st2 := [.int x3, .int x1]) rfl <| zx_c hy rfl e (fun _ e => zl hy 2 (pc2 := 15) (lv2 := [(8, .int (l8 + Int32.ofInt 1)), (10, .int x3), (9, .int x1), (0, .ref l0), (1, .int l1), (3, .ref l3), (4, .int l4), (6, .int l6), (7, .int l7)]) (st2 := []) rfl <| zt_sub (z_fc rfl (z_fc rfl (z_fc rfl (z_fc rfl (z_fc rfl (z_fc rfl (z_fc rfl (z_fn)))))))) <| ih l0 l1 l3 l4 l6 l7 (l8 + Int32.ofInt 1) h4 _ e) (fun _ e => zl hy 2 (pc2 := 61) (lv2 := [(10, .int x3), (9, .int x1), (0, .ref l0), (1, .int l1), (3, .ref l3), (4, .int l4), (6, .int l6), (7, .int l7), (8, .int l8)]) (st2 := [.int x3, .int x1]) rfl <| zx_c hy rfl e (fun _ e => zl hy 1 (pc2 := 69) (lv2 := [(10, .int x3), (9, .int x1), (0, .ref l0), (1, .int l1), (3, .ref l3), (4, .int l4), (6, .int l6), (7, .int l7), (8, .int l8)]) (st2 := [.int (Int32.ofInt 1)]) rfl <| zt_sub (z_fn) <| sfW_order_69 N   (Int32.ofInt 1) h4 _ e) (fun _ e => zl hy 2 (pc2 := 69) (lv2 := [(10, .int x3), (9, .int x1), (0, .ref l0), (1, .int l1), (3, .ref l3), (4, .int l4), (6, .int l6), (7, .int l7), (8, .int l8)]) (st2 := [.int (Int32.ofInt (-1))]) rfl <| zt_sub (z_fn) <| sfW_order_69 N   (Int32.ofInt (-1)) h4 _ e))))
def fW_order (N : Nat) (l0 : Nat) (l1 : Int32) (l2 : Int32) (l3 : Nat) (l4 : Int32) (l5 : Int32) (h : zH) : Option (Int32 × zH) := cond (fT h l0 4) (fW_order_15 N N  l0 l1 l3 l4 (l2 - l1) (l5 - l4) (Int32.ofInt 0) h) none
theorem sfW_order {xs : List Int32} (N : Nat) (l0 : Nat) (l1 : Int32) (l2 : Int32) (l3 : Nat) (l4 : Int32) (l5 : Int32) (h : zH) (r : Int32 × zH) (e : fW_order N l0 l1 l2 l3 l4 l5 h = some r) : zt xs (1) 32 0 [(0, .ref l0), (1, .int l1), (2, .int l2), (3, .ref l3), (4, .int l4), (5, .int l5)] [] h 0 0 (zQ cI r) := by
  have hy := mfW_order
  unfold fW_order at e
  replace e := (cond_some e).2
  exact zl hy 10 (pc2 := 15) (lv2 := [(8, .int (Int32.ofInt 0)), (7, .int (l5 - l4)), (6, .int (l2 - l1)), (0, .ref l0), (1, .int l1), (2, .int l2), (3, .ref l3), (4, .int l4), (5, .int l5)]) (st2 := []) rfl <| zt_sub (z_fc rfl (z_fc rfl (z_fc rfl (z_fc rfl (z_fc rfl (z_fc rfl (z_fc rfl (z_fn)))))))) <| sfW_order_15 N   N l0 l1 l3 l4 (l2 - l1) (l5 - l4) (Int32.ofInt 0) h _ e
theorem rfW_order (N : Nat) (l0 : Nat) (l1 : Int32) (l2 : Int32) (l3 : Nat) (l4 : Int32) (l5 : Int32) (h : zH) (r : Int32 × zH) (e : fW_order N l0 l1 l2 l3 l4 l5 h = some r) : fT h l0 4 = true := by
  unfold fW_order at e
  exact (cond_some e).1
/-- LyndonBench$State.greatestOfShelf(I)I -/
theorem mfS_greatestOfShelf : z_me 15 zc_15 6 [] (some .int) := ⟨rfl, rfl, rfl, rfl⟩
def fS_greatestOfShelf_72 (N : Nat) (k7 : Nat → Int32 → Int32 → Option Nat → Int32 → zH → Option (Int32 × zH)) (l0 : Nat) (l1 : Int32) (l2 : Int32) (l3 : Option Nat) (l4 : Int32) (h : zH) : Option (Int32 × zH) := (match l3 with | none => k7 l0 l1 l2 none (l4 + Int32.ofInt 1) h | some x3 => k7 l0 l1 l2 (some x3) (l4 + Int32.ofInt 1) h)
theorem sfS_greatestOfShelf_72 {xs : List Int32} (N : Nat) (k7 : Nat → Int32 → Int32 → Option Nat → Int32 → zH → Option (Int32 × zH))  (hk7 : ∀ (l0 : Nat) (l1 : Int32) (l2 : Int32) (l3 : Option Nat) (l4 : Int32) (h : zH) (r : Int32 × zH), k7 l0 l1 l2 l3 l4 h = some r → zt xs (2) 15 7 [(0, .ref l0), (1, .int l1), (2, .int l2), (3, va_rf l3), (4, .int l4)] [] h 0 0 (zQ cI r)) (l0 : Nat) (l1 : Int32) (l2 : Int32) (l3 : Option Nat) (l4 : Int32) (h : zH) (r : Int32 × zH) (e : fS_greatestOfShelf_72 N k7 l0 l1 l2 l3 l4 h = some r) : zt xs (2) 15 72 [(0, .ref l0), (1, .int l1), (2, .int l2), (3, va_rf l3), (4, .int l4)] [] h 0 0 (zQ cI r) := by
  have hy := mfS_greatestOfShelf
  unfold fS_greatestOfShelf_72 at e
  exact (match l3, e with | none, e => zl hy 2 (pc2 := 7) (lv2 := [(4, .int (l4 + Int32.ofInt 1)), (0, .ref l0), (1, .int l1), (2, .int l2), (3, .null)]) (st2 := []) rfl <| zt_sub (z_fc rfl (z_fc rfl (z_fc rfl (z_fc rfl (z_fc rfl (z_fn)))))) <| hk7 l0 l1 l2 none (l4 + Int32.ofInt 1) h _ e | some x3, e => zl hy 2 (pc2 := 7) (lv2 := [(4, .int (l4 + Int32.ofInt 1)), (0, .ref l0), (1, .int l1), (2, .int l2), (3, .ref x3)]) (st2 := []) rfl <| zt_sub (z_fc rfl (z_fc rfl (z_fc rfl (z_fc rfl (z_fc rfl (z_fn)))))) <| hk7 l0 l1 l2 (some x3) (l4 + Int32.ofInt 1) h _ e)
def fS_greatestOfShelf_66 (N : Nat) (k7 : Nat → Int32 → Int32 → Option Nat → Int32 → zH → Option (Int32 × zH)) (l0 : Nat) (l1 : Int32) (l4 : Int32) (l5 : Option Nat) (h : zH) : Option (Int32 × zH) := (match l5 with | none => fS_greatestOfShelf_72 N k7 l0 l1 l4 none l4 h | some x4 => fS_greatestOfShelf_72 N k7 l0 l1 l4 (some x4) l4 h)
theorem sfS_greatestOfShelf_66 {xs : List Int32} (N : Nat) (k7 : Nat → Int32 → Int32 → Option Nat → Int32 → zH → Option (Int32 × zH))  (hk7 : ∀ (l0 : Nat) (l1 : Int32) (l2 : Int32) (l3 : Option Nat) (l4 : Int32) (h : zH) (r : Int32 × zH), k7 l0 l1 l2 l3 l4 h = some r → zt xs (2) 15 7 [(0, .ref l0), (1, .int l1), (2, .int l2), (3, va_rf l3), (4, .int l4)] [] h 0 0 (zQ cI r)) (l0 : Nat) (l1 : Int32) (l4 : Int32) (l5 : Option Nat) (h : zH) (r : Int32 × zH) (e : fS_greatestOfShelf_66 N k7 l0 l1 l4 l5 h = some r) : zt xs (2) 15 66 [(0, .ref l0), (1, .int l1), (4, .int l4), (5, va_rf l5)] [] h 0 0 (zQ cI r) := by
  have hy := mfS_greatestOfShelf
  unfold fS_greatestOfShelf_66 at e
  exact zl hy 2 (pc2 := 69) (lv2 := [(2, .int l4), (0, .ref l0), (1, .int l1), (4, .int l4), (5, va_rf l5)]) (st2 := []) rfl <| (match l5, e with | none, e => zl hy 2 (pc2 := 72) (lv2 := [(3, .null), (2, .int l4), (0, .ref l0), (1, .int l1), (4, .int l4), (5, .null)]) (st2 := []) rfl <| zt_sub (z_fc rfl (z_fc rfl (z_fc rfl (z_fc rfl (z_fc rfl (z_fn)))))) <| sfS_greatestOfShelf_72 N k7 hk7 l0 l1 l4 none l4 h _ e | some x4, e => zl hy 2 (pc2 := 72) (lv2 := [(3, .ref x4), (2, .int l4), (0, .ref l0), (1, .int l1), (4, .int l4), (5, .ref x4)]) (st2 := []) rfl <| zt_sub (z_fc rfl (z_fc rfl (z_fc rfl (z_fc rfl (z_fc rfl (z_fn)))))) <| sfS_greatestOfShelf_72 N k7 hk7 l0 l1 l4 (some x4) l4 h _ e)
def fS_greatestOfShelf_35 (N : Nat) (k7 : Nat → Int32 → Int32 → Option Nat → Int32 → zH → Option (Int32 × zH)) (l0 : Nat) (l1 : Int32) (l2 : Int32) (l3 : Option Nat) (l4 : Int32) (s0 : Option Nat) (h : zH) : Option (Int32 × zH) := (match s0 with | none => fS_greatestOfShelf_72 N k7 l0 l1 l2 l3 l4 h | some x2 => cond (fX h x2) ((match l3 with | none => fS_greatestOfShelf_66 N k7 l0 l1 l4 (some x2) h | some x3 => cond (fX h x3) (b1 (fI h x2 4 1) fun x4 => b1 (fI h x3 4 1) fun x5 => b2 (fW_order N x2 (Int32.ofInt 0) x4 x3 (Int32.ofInt 0) x5 h) fun x6 h7 => cond (z_cmp .le x6 (Int32.ofInt 0)) (fS_greatestOfShelf_72 N k7 l0 l1 l2 (some x3) l4 h7) (fS_greatestOfShelf_66 N k7 l0 l1 l4 (some x2) h7)) none)) none)
theorem sfS_greatestOfShelf_35 {xs : List Int32} (N : Nat) (k7 : Nat → Int32 → Int32 → Option Nat → Int32 → zH → Option (Int32 × zH))  (hk7 : ∀ (l0 : Nat) (l1 : Int32) (l2 : Int32) (l3 : Option Nat) (l4 : Int32) (h : zH) (r : Int32 × zH), k7 l0 l1 l2 l3 l4 h = some r → zt xs (2) 15 7 [(0, .ref l0), (1, .int l1), (2, .int l2), (3, va_rf l3), (4, .int l4)] [] h 0 0 (zQ cI r)) (l0 : Nat) (l1 : Int32) (l2 : Int32) (l3 : Option Nat) (l4 : Int32) (s0 : Option Nat) (h : zH) (r : Int32 × zH) (e : fS_greatestOfShelf_35 N k7 l0 l1 l2 l3 l4 s0 h = some r) : zt xs (2) 15 35 [(0, .ref l0), (1, .int l1), (2, .int l2), (3, va_rf l3), (4, .int l4)] [va_rf s0] h 0 0 (zQ cI r) := by
  have hy := mfS_greatestOfShelf
  unfold fS_greatestOfShelf_35 at e
  exact (match s0, e with | none, e => zl hy 2 (pc2 := 39) (lv2 := [(5, .null), (0, .ref l0), (1, .int l1), (2, .int l2), (3, va_rf l3), (4, .int l4)]) (st2 := [.null]) rfl <| zx_nullN hy rfl <| zt_sub (z_fc rfl (z_fc rfl (z_fc rfl (z_fc rfl (z_fc rfl (z_fn)))))) <| sfS_greatestOfShelf_72 N k7 hk7 l0 l1 l2 l3 l4 h _ e | some x2, e => zl hy 2 (pc2 := 39) (lv2 := [(5, .ref x2), (0, .ref l0), (1, .int l1), (2, .int l2), (3, va_rf l3), (4, .int l4)]) (st2 := [.ref x2]) rfl <| zx_nullR hy rfl e fun e => (match l3, e with | none, e => zl hy 1 (pc2 := 43) (lv2 := [(5, .ref x2), (0, .ref l0), (1, .int l1), (2, .int l2), (3, .null), (4, .int l4)]) (st2 := [.null]) rfl <| zx_nullN hy rfl <| zt_sub (z_fc rfl (z_fc rfl (z_fc rfl (z_fc rfl (z_fn))))) <| sfS_greatestOfShelf_66 N k7 hk7 l0 l1 l4 (some x2) h _ e | some x3, e => zl hy 1 (pc2 := 43) (lv2 := [(5, .ref x2), (0, .ref l0), (1, .int l1), (2, .int l2), (3, .ref x3), (4, .int l4)]) (st2 := [.ref x3]) rfl <| zx_nullR hy rfl e fun e => zl hy 3 (pc2 := 51) (lv2 := [(5, .ref x2), (0, .ref l0), (1, .int l1), (2, .int l2), (3, .ref x3), (4, .int l4)]) (st2 := [.ref x2, .int (Int32.ofInt 0), .ref x2]) rfl <| zx_gI hy rfl e fun x4 _ e => zl hy 3 (pc2 := 57) (lv2 := [(5, .ref x2), (0, .ref l0), (1, .int l1), (2, .int l2), (3, .ref x3), (4, .int l4)]) (st2 := [.ref x3, .int (Int32.ofInt 0), .ref x3, .int x4, .int (Int32.ofInt 0), .ref x2]) rfl <| zx_gI hy rfl e fun x5 _ e => zx_call hy (as := [.ref x2, .int (Int32.ofInt 0), .int x4, .ref x3, .int (Int32.ofInt 0), .int x5]) (rest := []) (ov := (fun v => some (.int v))) (fun _ => rfl) rfl rfl (Or.inl rfl) rfl rfl (Nat.le_of_ble_eq_true rfl) (Nat.le_of_ble_eq_true rfl) (fun _ e _ => z_rcvT (rfW_order N x2 (Int32.ofInt 0) x4 x3 (Int32.ofInt 0) x5 h _ e)) (fun _ e => zt_deep (Nat.le_of_ble_eq_true rfl) (sfW_order N x2 (Int32.ofInt 0) x4 x3 (Int32.ofInt 0) x5 h _ e)) e fun x6 h7 _ e => zx_c0 hy rfl e (fun _ e => zt_sub (z_fc rfl (z_fc rfl (z_fc rfl (z_fc rfl (z_fc rfl (z_fn)))))) <| sfS_greatestOfShelf_72 N k7 hk7 l0 l1 l2 (some x3) l4 h7 _ e) (fun _ e => zt_sub (z_fc rfl (z_fc rfl (z_fc rfl (z_fc rfl (z_fn))))) <| sfS_greatestOfShelf_66 N k7 hk7 l0 l1 l4 (some x2) h7 _ e)))
def fS_greatestOfShelf_7 (N : Nat) : Nat → Nat → Int32 → Int32 → Option Nat → Int32 → zH → Option (Int32 × zH)
  | 0, _, _, _, _, _, _ => none
  | n + 1, l0, l1, l2, l3, l4, h => b1 (fI h l0 3 3) fun x1 => cond (z_cmp .ge l4 x1) (some (l2, h)) (cond (z_cmp .ne ((l1 >>> (l4 &&& 31)) &&& (Int32.ofInt 1)) (Int32.ofInt 0)) (fS_greatestOfShelf_35 N (fS_greatestOfShelf_7 N n ) l0 l1 l2 l3 l4 none h) (b2 (fS_keptAt N l0 l4 h) fun x2 h3 => (match x2 with | none => fS_greatestOfShelf_35 N (fS_greatestOfShelf_7 N n ) l0 l1 l2 l3 l4 none h3 | some x4 => fS_greatestOfShelf_35 N (fS_greatestOfShelf_7 N n ) l0 l1 l2 l3 l4 (some x4) h3)))
theorem sfS_greatestOfShelf_7 {xs : List Int32} (N : Nat)   : ∀ (n : Nat) (l0 : Nat) (l1 : Int32) (l2 : Int32) (l3 : Option Nat) (l4 : Int32) (h : zH) (r : Int32 × zH), fS_greatestOfShelf_7 N n  l0 l1 l2 l3 l4 h = some r → zt xs (2) 15 7 [(0, .ref l0), (1, .int l1), (2, .int l2), (3, va_rf l3), (4, .int l4)] [] h 0 0 (zQ cI r) := by
  have hy := mfS_greatestOfShelf
  intro n
  induction n with
  | zero =>
    intro l0 l1 l2 l3 l4 h r e
    rw [fS_greatestOfShelf_7] at e
    cases e
  | succ n ih =>
    intro l0 l1 l2 l3 l4 h r e
    rw [fS_greatestOfShelf_7] at e
    exact zl hy 2 (pc2 := 10) (lv2 := [(0, .ref l0), (1, .int l1), (2, .int l2), (3, va_rf l3), (4, .int l4)]) (st2 := [.ref l0, .int l4]) rfl <| zx_gI hy rfl e fun x1 _ e => zx_c hy rfl e (fun _ e => zl hy 1 (pc2 := 79) (lv2 := [(0, .ref l0), (1, .int l1), (2, .int l2), (3, va_rf l3), (4, .int l4)]) (st2 := [.int l2]) rfl <| zx_ret hy rfl rfl rfl rfl e) (fun _ e => zl hy 5 (pc2 := 22) (lv2 := [(0, .ref l0), (1, .int l1), (2, .int l2), (3, va_rf l3), (4, .int l4)]) (st2 := [.int ((l1 >>> (l4 &&& 31)) &&& (Int32.ofInt 1))]) rfl <| zx_c0 hy rfl e (fun _ e => zl hy 1 (pc2 := 35) (lv2 := [(0, .ref l0), (1, .int l1), (2, .int l2), (3, va_rf l3), (4, .int l4)]) (st2 := [.null]) rfl <| zt_sub (z_fc rfl (z_fc rfl (z_fc rfl (z_fc rfl (z_fc rfl (z_fn)))))) <| sfS_greatestOfShelf_35 N (fS_greatestOfShelf_7 N n ) ih l0 l1 l2 l3 l4 none h _ e) (fun _ e => zl hy 2 (pc2 := 28) (lv2 := [(0, .ref l0), (1, .int l1), (2, .int l2), (3, va_rf l3), (4, .int l4)]) (st2 := [.int l4, .ref l0]) rfl <| zx_call hy (as := [.ref l0, .int l4]) (rest := []) (ov := (fun v => some (va_rf v))) (fun _ => rfl) rfl rfl (Or.inl rfl) rfl rfl (Nat.le_of_ble_eq_true rfl) (Nat.le_of_ble_eq_true rfl) (fun _ e _ => z_rcvT (rfS_keptAt N l0 l4 h _ e)) (fun _ e => zt_deep (Nat.le_of_ble_eq_true rfl) (sfS_keptAt N l0 l4 h _ e)) e fun x2 h3 _ e => (match x2, e with | none, e => zl hy 1 (pc2 := 35) (lv2 := [(0, .ref l0), (1, .int l1), (2, .int l2), (3, va_rf l3), (4, .int l4)]) (st2 := [.null]) rfl <| zt_sub (z_fc rfl (z_fc rfl (z_fc rfl (z_fc rfl (z_fc rfl (z_fn)))))) <| sfS_greatestOfShelf_35 N (fS_greatestOfShelf_7 N n ) ih l0 l1 l2 l3 l4 none h3 _ e | some x4, e => zl hy 1 (pc2 := 35) (lv2 := [(0, .ref l0), (1, .int l1), (2, .int l2), (3, va_rf l3), (4, .int l4)]) (st2 := [.ref x4]) rfl <| zt_sub (z_fc rfl (z_fc rfl (z_fc rfl (z_fc rfl (z_fc rfl (z_fn)))))) <| sfS_greatestOfShelf_35 N (fS_greatestOfShelf_7 N n ) ih l0 l1 l2 l3 l4 (some x4) h3 _ e)))
def fS_greatestOfShelf (N : Nat) (l0 : Nat) (l1 : Int32) (h : zH) : Option (Int32 × zH) := cond (fT h l0 3) (fS_greatestOfShelf_7 N N  l0 l1 (Int32.ofInt (-1)) none (Int32.ofInt 0) h) none
theorem sfS_greatestOfShelf {xs : List Int32} (N : Nat) (l0 : Nat) (l1 : Int32) (h : zH) (r : Int32 × zH) (e : fS_greatestOfShelf N l0 l1 h = some r) : zt xs (2) 15 0 [(0, .ref l0), (1, .int l1)] [] h 0 0 (zQ cI r) := by
  have hy := mfS_greatestOfShelf
  unfold fS_greatestOfShelf at e
  replace e := (cond_some e).2
  exact zl hy 6 (pc2 := 7) (lv2 := [(4, .int (Int32.ofInt 0)), (3, .null), (2, .int (Int32.ofInt (-1))), (0, .ref l0), (1, .int l1)]) (st2 := []) rfl <| zt_sub (z_fc rfl (z_fc rfl (z_fc rfl (z_fc rfl (z_fc rfl (z_fn)))))) <| sfS_greatestOfShelf_7 N   N l0 l1 (Int32.ofInt (-1)) none (Int32.ofInt 0) h _ e
theorem rfS_greatestOfShelf (N : Nat) (l0 : Nat) (l1 : Int32) (h : zH) (r : Int32 × zH) (e : fS_greatestOfShelf N l0 l1 h = some r) : fT h l0 3 = true := by
  unfold fS_greatestOfShelf at e
  exact (cond_some e).1
/-- LyndonBench$State.canJoin()Z -/
theorem mfS_canJoin : z_me 16 zc_16 4 [] (some .boolean) := ⟨rfl, rfl, rfl, rfl⟩
def fS_canJoin_57 (N : Nat)  (s0 : Int32) (h : zH) : Option (Int32 × zH) := cond (decide (s0 = Int32.ofInt 0) || decide (s0 = Int32.ofInt 1)) (some (s0, h)) none
theorem sfS_canJoin_57 {xs : List Int32} (N : Nat)   (s0 : Int32) (h : zH) (r : Int32 × zH) (e : fS_canJoin_57 N  s0 h = some r) : zt xs (1) 16 57 [] [.int s0] h 0 0 (zQ cI r) := by
  have hy := mfS_canJoin
  unfold fS_canJoin_57 at e
  exact zx_retB hy rfl rfl e
def fS_canJoin_56 (N : Nat)   (h : zH) : Option (Int32 × zH) := fS_canJoin_57 N  (Int32.ofInt 0) h
theorem sfS_canJoin_56 {xs : List Int32} (N : Nat)    (h : zH) (r : Int32 × zH) (e : fS_canJoin_56 N   h = some r) : zt xs (1) 16 56 [] [] h 0 0 (zQ cI r) := by
  have hy := mfS_canJoin
  unfold fS_canJoin_56 at e
  exact zl hy 1 (pc2 := 57) (lv2 := []) (st2 := [.int (Int32.ofInt 0)]) rfl <| zt_sub (z_fn) <| sfS_canJoin_57 N   (Int32.ofInt 0) h _ e
def fS_canJoin_31 (N : Nat) (k4 : Nat → Int32 → Int32 → zH → Option (Int32 × zH)) (l0 : Nat) (l2 : Int32) (s0 : Int32) (s1 : Int32) (h : zH) : Option (Int32 × zH) := k4 l0 (s1 + s0) (l2 + Int32.ofInt 1) h
theorem sfS_canJoin_31 {xs : List Int32} (N : Nat) (k4 : Nat → Int32 → Int32 → zH → Option (Int32 × zH))  (hk4 : ∀ (l0 : Nat) (l1 : Int32) (l2 : Int32) (h : zH) (r : Int32 × zH), k4 l0 l1 l2 h = some r → zt xs (1) 16 4 [(0, .ref l0), (1, .int l1), (2, .int l2)] [] h 0 0 (zQ cI r)) (l0 : Nat) (l2 : Int32) (s0 : Int32) (s1 : Int32) (h : zH) (r : Int32 × zH) (e : fS_canJoin_31 N k4 l0 l2 s0 s1 h = some r) : zt xs (1) 16 31 [(0, .ref l0), (2, .int l2)] [.int s0, .int s1] h 0 0 (zQ cI r) := by
  have hy := mfS_canJoin
  unfold fS_canJoin_31 at e
  exact zl hy 4 (pc2 := 4) (lv2 := [(2, .int (l2 + Int32.ofInt 1)), (1, .int (s1 + s0)), (0, .ref l0)]) (st2 := []) rfl <| zt_sub (z_fc rfl (z_fc rfl (z_fc rfl (z_fn)))) <| hk4 l0 (s1 + s0) (l2 + Int32.ofInt 1) h _ e
def fS_canJoin_4 (N : Nat) : Nat → Nat → Int32 → Int32 → zH → Option (Int32 × zH)
  | 0, _, _, _, _ => none
  | n + 1, l0, l1, l2, h => b1 (fI h l0 3 3) fun x1 => cond (z_cmp .ge l2 x1) (b1 (fI h l0 3 3) fun x2 => cond (z_cmp .le x2 (Int32.ofInt 0)) (fS_canJoin_56 N   h) (cond (z_cmp .gt l1 (Int32.ofInt 120)) (fS_canJoin_56 N   h) (fS_canJoin_57 N  (Int32.ofInt 1) h))) (b2 (fS_keptAt N l0 l2 h) fun x3 h4 => (match x3 with | none => fS_canJoin_31 N (fS_canJoin_4 N n ) l0 l2 (Int32.ofInt 0) l1 h4 | some x5 => cond (fX h4 x5) (b1 (fI h4 x5 4 1) fun x6 => fS_canJoin_31 N (fS_canJoin_4 N n ) l0 l2 x6 l1 h4) none))
theorem sfS_canJoin_4 {xs : List Int32} (N : Nat)   : ∀ (n : Nat) (l0 : Nat) (l1 : Int32) (l2 : Int32) (h : zH) (r : Int32 × zH), fS_canJoin_4 N n  l0 l1 l2 h = some r → zt xs (1) 16 4 [(0, .ref l0), (1, .int l1), (2, .int l2)] [] h 0 0 (zQ cI r) := by
  have hy := mfS_canJoin
  intro n
  induction n with
  | zero =>
    intro l0 l1 l2 h r e
    rw [fS_canJoin_4] at e
    cases e
  | succ n ih =>
    intro l0 l1 l2 h r e
    rw [fS_canJoin_4] at e
    exact zl hy 2 (pc2 := 6) (lv2 := [(0, .ref l0), (1, .int l1), (2, .int l2)]) (st2 := [.ref l0, .int l2]) rfl <| zx_gI hy rfl e fun x1 _ e => zx_c hy rfl e (fun _ e => zl hy 1 (pc2 := 40) (lv2 := [(0, .ref l0), (1, .int l1), (2, .int l2)]) (st2 := [.ref l0]) rfl <| zx_gI hy rfl e fun x2 _ e => zx_c0 hy rfl e (fun _ e => zt_sub (z_fn) <| sfS_canJoin_56 N    h _ e) (fun _ e => zl hy 1 (pc2 := 47) (lv2 := [(0, .ref l0), (1, .int l1), (2, .int l2)]) (st2 := [.int l1]) rfl <| zx_bip hy (c := 120) rfl (by decide) <| zx_c hy rfl e (fun _ e => zt_sub (z_fn) <| sfS_canJoin_56 N    h _ e) (fun _ e => zl hy 2 (pc2 := 57) (lv2 := [(0, .ref l0), (1, .int l1), (2, .int l2)]) (st2 := [.int (Int32.ofInt 1)]) rfl <| zt_sub (z_fn) <| sfS_canJoin_57 N   (Int32.ofInt 1) h _ e))) (fun _ e => zl hy 2 (pc2 := 14) (lv2 := [(0, .ref l0), (1, .int l1), (2, .int l2)]) (st2 := [.int l2, .ref l0]) rfl <| zx_call hy (as := [.ref l0, .int l2]) (rest := []) (ov := (fun v => some (va_rf v))) (fun _ => rfl) rfl rfl (Or.inl rfl) rfl rfl (Nat.le_of_ble_eq_true rfl) (Nat.le_of_ble_eq_true rfl) (fun _ e _ => z_rcvT (rfS_keptAt N l0 l2 h _ e)) (fun _ e => zt_deep (Nat.le_of_ble_eq_true rfl) (sfS_keptAt N l0 l2 h _ e)) e fun x3 h4 _ e => (match x3, e with | none, e => zl hy 3 (pc2 := 20) (lv2 := [(3, .null), (0, .ref l0), (1, .int l1), (2, .int l2)]) (st2 := [.null, .int l1]) rfl <| zx_nonnullN hy rfl <| zl hy 2 (pc2 := 31) (lv2 := [(3, .null), (0, .ref l0), (1, .int l1), (2, .int l2)]) (st2 := [.int (Int32.ofInt 0), .int l1]) rfl <| zt_sub (z_fc rfl (z_fc rfl (z_fn))) <| sfS_canJoin_31 N (fS_canJoin_4 N n ) ih l0 l2 (Int32.ofInt 0) l1 h4 _ e | some x5, e => zl hy 3 (pc2 := 20) (lv2 := [(3, .ref x5), (0, .ref l0), (1, .int l1), (2, .int l2)]) (st2 := [.ref x5, .int l1]) rfl <| zx_nonnullR hy rfl e fun e => zl hy 1 (pc2 := 28) (lv2 := [(3, .ref x5), (0, .ref l0), (1, .int l1), (2, .int l2)]) (st2 := [.ref x5, .int l1]) rfl <| zx_gI hy rfl e fun x6 _ e => zt_sub (z_fc rfl (z_fc rfl (z_fn))) <| sfS_canJoin_31 N (fS_canJoin_4 N n ) ih l0 l2 x6 l1 h4 _ e))
def fS_canJoin (N : Nat) (l0 : Nat) (h : zH) : Option (Int32 × zH) := cond (fT h l0 3) (fS_canJoin_4 N N  l0 (Int32.ofInt 0) (Int32.ofInt 0) h) none
theorem sfS_canJoin {xs : List Int32} (N : Nat) (l0 : Nat) (h : zH) (r : Int32 × zH) (e : fS_canJoin N l0 h = some r) : zt xs (1) 16 0 [(0, .ref l0)] [] h 0 0 (zQ cI r) := by
  have hy := mfS_canJoin
  unfold fS_canJoin at e
  replace e := (cond_some e).2
  exact zl hy 4 (pc2 := 4) (lv2 := [(2, .int (Int32.ofInt 0)), (1, .int (Int32.ofInt 0)), (0, .ref l0)]) (st2 := []) rfl <| zt_sub (z_fc rfl (z_fc rfl (z_fc rfl (z_fn)))) <| sfS_canJoin_4 N   N l0 (Int32.ofInt 0) (Int32.ofInt 0) h _ e
theorem rfS_canJoin (N : Nat) (l0 : Nat) (h : zH) (r : Int32 × zH) (e : fS_canJoin N l0 h = some r) : fT h l0 3 = true := by
  unfold fS_canJoin at e
  exact (cond_some e).1
/-- LyndonBench$State.joinShelf()V -/
theorem mfS_joinShelf : z_me 17 zc_17 5 [] none := ⟨rfl, rfl, rfl, rfl⟩
def fS_joinShelf_58 (N : Nat) (k11 : Nat → Int32 → Int32 → zH → Option (Unit × zH)) (l0 : Nat) (l1 : Int32) (l2 : Int32) (h : zH) : Option (Unit × zH) := k11 l0 l1 (l2 + Int32.ofInt 1) h
theorem sfS_joinShelf_58 {xs : List Int32} (N : Nat) (k11 : Nat → Int32 → Int32 → zH → Option (Unit × zH))  (hk11 : ∀ (l0 : Nat) (l1 : Int32) (l2 : Int32) (h : zH) (r : Unit × zH), k11 l0 l1 l2 h = some r → zt xs (3) 17 11 [(0, .ref l0), (1, .int l1), (2, .int l2)] [] h 0 0 (zQ cV r)) (l0 : Nat) (l1 : Int32) (l2 : Int32) (h : zH) (r : Unit × zH) (e : fS_joinShelf_58 N k11 l0 l1 l2 h = some r) : zt xs (3) 17 58 [(0, .ref l0), (1, .int l1), (2, .int l2)] [] h 0 0 (zQ cV r) := by
  have hy := mfS_joinShelf
  unfold fS_joinShelf_58 at e
  exact zl hy 2 (pc2 := 11) (lv2 := [(2, .int (l2 + Int32.ofInt 1)), (0, .ref l0), (1, .int l1)]) (st2 := []) rfl <| zt_sub (z_fc rfl (z_fc rfl (z_fc rfl (z_fn)))) <| hk11 l0 l1 (l2 + Int32.ofInt 1) h _ e
def fS_joinShelf_11 (N : Nat) : Nat → Nat → Int32 → Int32 → zH → Option (Unit × zH)
  | 0, _, _, _, _ => none
  | n + 1, l0, l1, l2, h => b1 (fI h l0 3 3) fun x4 => cond (z_cmp .ge l2 x4) (some ((), h)) (b2 (fS_greatestOfShelf N l0 l1 h) fun x5 h6 => b2 (fS_keptAt N l0 x5 h6) fun x7 h8 => (match x7 with | none => fS_joinShelf_58 N (fS_joinShelf_11 N n ) l0 l1 l2 h8 | some x9 => cond (fX h8 x9) (b1 (fR h8 l0 3 1) fun x10 => b1 (fI h8 x9 4 1) fun x11 => b2 (fW_addPart N x10 x9 (Int32.ofInt 0) x11 h8) fun _ h13 => fS_joinShelf_58 N (fS_joinShelf_11 N n ) l0 (l1 ||| ((Int32.ofInt 1) <<< (x5 &&& 31))) l2 h13) none))
theorem sfS_joinShelf_11 {xs : List Int32} (N : Nat)   : ∀ (n : Nat) (l0 : Nat) (l1 : Int32) (l2 : Int32) (h : zH) (r : Unit × zH), fS_joinShelf_11 N n  l0 l1 l2 h = some r → zt xs (3) 17 11 [(0, .ref l0), (1, .int l1), (2, .int l2)] [] h 0 0 (zQ cV r) := by
  have hy := mfS_joinShelf
  intro n
  induction n with
  | zero =>
    intro l0 l1 l2 h r e
    rw [fS_joinShelf_11] at e
    cases e
  | succ n ih =>
    intro l0 l1 l2 h r e
    rw [fS_joinShelf_11] at e
    exact zl hy 2 (pc2 := 13) (lv2 := [(0, .ref l0), (1, .int l1), (2, .int l2)]) (st2 := [.ref l0, .int l2]) rfl <| zx_gI hy rfl e fun x4 _ e => zx_c hy rfl e (fun _ e => zx_retV hy rfl rfl e) (fun _ e => zl hy 2 (pc2 := 21) (lv2 := [(0, .ref l0), (1, .int l1), (2, .int l2)]) (st2 := [.int l1, .ref l0]) rfl <| zx_call hy (as := [.ref l0, .int l1]) (rest := []) (ov := (fun v => some (.int v))) (fun _ => rfl) rfl rfl (Or.inl rfl) rfl rfl (Nat.le_of_ble_eq_true rfl) (Nat.le_of_ble_eq_true rfl) (fun _ e _ => z_rcvT (rfS_greatestOfShelf N l0 l1 h _ e)) (fun _ e => zt_deep (Nat.le_of_ble_eq_true rfl) (sfS_greatestOfShelf N l0 l1 h _ e)) e fun x5 h6 _ e => zl hy 3 (pc2 := 27) (lv2 := [(3, .int x5), (0, .ref l0), (1, .int l1), (2, .int l2)]) (st2 := [.int x5, .ref l0]) rfl <| zx_call hy (as := [.ref l0, .int x5]) (rest := []) (ov := (fun v => some (va_rf v))) (fun _ => rfl) rfl rfl (Or.inl rfl) rfl rfl (Nat.le_of_ble_eq_true rfl) (Nat.le_of_ble_eq_true rfl) (fun _ e _ => z_rcvT (rfS_keptAt N l0 x5 h6 _ e)) (fun _ e => zt_deep (Nat.le_of_ble_eq_true rfl) (sfS_keptAt N l0 x5 h6 _ e)) e fun x7 h8 _ e => (match x7, e with | none, e => zl hy 2 (pc2 := 34) (lv2 := [(4, .null), (3, .int x5), (0, .ref l0), (1, .int l1), (2, .int l2)]) (st2 := [.null]) rfl <| zx_nullN hy rfl <| zt_sub (z_fc rfl (z_fc rfl (z_fc rfl (z_fn)))) <| sfS_joinShelf_58 N (fS_joinShelf_11 N n ) ih l0 l1 l2 h8 _ e | some x9, e => zl hy 2 (pc2 := 34) (lv2 := [(4, .ref x9), (3, .int x5), (0, .ref l0), (1, .int l1), (2, .int l2)]) (st2 := [.ref x9]) rfl <| zx_nullR hy rfl e fun e => zl hy 1 (pc2 := 38) (lv2 := [(4, .ref x9), (3, .int x5), (0, .ref l0), (1, .int l1), (2, .int l2)]) (st2 := [.ref l0]) rfl <| zx_gR hy rfl e fun x10 _ e => zl hy 3 (pc2 := 46) (lv2 := [(4, .ref x9), (3, .int x5), (0, .ref l0), (1, .int l1), (2, .int l2)]) (st2 := [.ref x9, .int (Int32.ofInt 0), .ref x9, .ref x10]) rfl <| zx_gI hy rfl e fun x11 _ e => zx_call hy (as := [.ref x10, .ref x9, .int (Int32.ofInt 0), .int x11]) (rest := []) (ov := (fun _ => none)) (fun _ => rfl) rfl rfl (Or.inl rfl) rfl rfl (Nat.le_of_ble_eq_true rfl) (Nat.le_of_ble_eq_true rfl) (fun _ e _ => z_rcvT (rfW_addPart N x10 x9 (Int32.ofInt 0) x11 h8 _ e)) (fun _ e => zt_deep (Nat.le_of_ble_eq_true rfl) (sfW_addPart N x10 x9 (Int32.ofInt 0) x11 h8 _ e)) e fun _ h13 _ e => zl hy 6 (pc2 := 58) (lv2 := [(1, .int (l1 ||| ((Int32.ofInt 1) <<< (x5 &&& 31)))), (4, .ref x9), (3, .int x5), (0, .ref l0), (2, .int l2)]) (st2 := []) rfl <| zt_sub (z_fc rfl (z_fc rfl (z_fc rfl (z_fn)))) <| sfS_joinShelf_58 N (fS_joinShelf_11 N n ) ih l0 (l1 ||| ((Int32.ofInt 1) <<< (x5 &&& 31))) l2 h13 _ e))
def fS_joinShelf (N : Nat) (l0 : Nat) (h : zH) : Option (Unit × zH) := cond (fT h l0 3) (b1 (fR h l0 3 1) fun x1 => b2 (fW_clear N x1 h) fun _ h3 => fS_joinShelf_11 N N  l0 (Int32.ofInt 0) (Int32.ofInt 0) h3) none
theorem sfS_joinShelf {xs : List Int32} (N : Nat) (l0 : Nat) (h : zH) (r : Unit × zH) (e : fS_joinShelf N l0 h = some r) : zt xs (3) 17 0 [(0, .ref l0)] [] h 0 0 (zQ cV r) := by
  have hy := mfS_joinShelf
  unfold fS_joinShelf at e
  replace e := (cond_some e).2
  exact zl hy 1 (pc2 := 1) (lv2 := [(0, .ref l0)]) (st2 := [.ref l0]) rfl <| zx_gR hy rfl e fun x1 _ e => zx_call hy (as := [.ref x1]) (rest := []) (ov := (fun _ => none)) (fun _ => rfl) rfl rfl (Or.inl rfl) rfl rfl (Nat.le_of_ble_eq_true rfl) (Nat.le_of_ble_eq_true rfl) (fun _ e _ => z_rcvT (rfW_clear N x1 h _ e)) (fun _ e => zt_deep (Nat.le_of_ble_eq_true rfl) (sfW_clear N x1 h _ e)) e fun _ h3 _ e => zl hy 4 (pc2 := 11) (lv2 := [(2, .int (Int32.ofInt 0)), (1, .int (Int32.ofInt 0)), (0, .ref l0)]) (st2 := []) rfl <| zt_sub (z_fc rfl (z_fc rfl (z_fc rfl (z_fn)))) <| sfS_joinShelf_11 N   N l0 (Int32.ofInt 0) (Int32.ofInt 0) h3 _ e
theorem rfS_joinShelf (N : Nat) (l0 : Nat) (h : zH) (r : Unit × zH) (e : fS_joinShelf N l0 h = some r) : fT h l0 3 = true := by
  unfold fS_joinShelf at e
  exact (cond_some e).1
/-- LyndonBench$Word.lyndonEnd(I)I -/
theorem mfW_lyndonEnd : z_me 33 zc_33 4 [] (some .int) := ⟨rfl, rfl, rfl, rfl⟩
def fW_lyndonEnd_56 (N : Nat)  (l1 : Int32) (l2 : Int32) (h : zH) : Option (Int32 × zH) := some ((l1 + l2), h)
theorem sfW_lyndonEnd_56 {xs : List Int32} (N : Nat)   (l1 : Int32) (l2 : Int32) (h : zH) (r : Int32 × zH) (e : fW_lyndonEnd_56 N  l1 l2 h = some r) : zt xs (1) 33 56 [(1, .int l1), (2, .int l2)] [] h 0 0 (zQ cI r) := by
  have hy := mfW_lyndonEnd
  unfold fW_lyndonEnd_56 at e
  exact zl hy 3 (pc2 := 59) (lv2 := [(1, .int l1), (2, .int l2)]) (st2 := [.int (l1 + l2)]) rfl <| zx_ret hy rfl rfl rfl rfl e
def fW_lyndonEnd_50 (N : Nat) (k6 : Nat → Int32 → Int32 → Int32 → zH → Option (Int32 × zH)) (l0 : Nat) (l1 : Int32) (l2 : Int32) (l3 : Int32) (h : zH) : Option (Int32 × zH) := k6 l0 l1 l2 (l3 + Int32.ofInt 1) h
theorem sfW_lyndonEnd_50 {xs : List Int32} (N : Nat) (k6 : Nat → Int32 → Int32 → Int32 → zH → Option (Int32 × zH))  (hk6 : ∀ (l0 : Nat) (l1 : Int32) (l2 : Int32) (l3 : Int32) (h : zH) (r : Int32 × zH), k6 l0 l1 l2 l3 h = some r → zt xs (1) 33 6 [(0, .ref l0), (1, .int l1), (2, .int l2), (3, .int l3)] [] h 0 0 (zQ cI r)) (l0 : Nat) (l1 : Int32) (l2 : Int32) (l3 : Int32) (h : zH) (r : Int32 × zH) (e : fW_lyndonEnd_50 N k6 l0 l1 l2 l3 h = some r) : zt xs (1) 33 50 [(0, .ref l0), (1, .int l1), (2, .int l2), (3, .int l3)] [] h 0 0 (zQ cI r) := by
  have hy := mfW_lyndonEnd
  unfold fW_lyndonEnd_50 at e
  exact zl hy 2 (pc2 := 6) (lv2 := [(3, .int (l3 + Int32.ofInt 1)), (0, .ref l0), (1, .int l1), (2, .int l2)]) (st2 := []) rfl <| zt_sub (z_fc rfl (z_fc rfl (z_fc rfl (z_fc rfl (z_fn))))) <| hk6 l0 l1 l2 (l3 + Int32.ofInt 1) h _ e
def fW_lyndonEnd_6 (N : Nat) : Nat → Nat → Int32 → Int32 → Int32 → zH → Option (Int32 × zH)
  | 0, _, _, _, _, _ => none
  | n + 1, l0, l1, l2, l3, h => b1 (fI h l0 4 1) fun x1 => cond (z_cmp .ge l3 x1) (fW_lyndonEnd_56 N  l1 l2 h) (b2 (fW_at N l0 l3 h) fun x2 h3 => b2 (fW_at N l0 (l3 - l2) h3) fun x4 h5 => cond (z_cmp .lt x2 x4) (fW_lyndonEnd_56 N  l1 l2 h5) (b2 (fW_at N l0 l3 h5) fun x6 h7 => b2 (fW_at N l0 (l3 - l2) h7) fun x8 h9 => cond (z_cmp .le x6 x8) (fW_lyndonEnd_50 N (fW_lyndonEnd_6 N n ) l0 l1 l2 l3 h9) (fW_lyndonEnd_50 N (fW_lyndonEnd_6 N n ) l0 l1 ((l3 - l1) + (Int32.ofInt 1)) l3 h9)))
theorem sfW_lyndonEnd_6 {xs : List Int32} (N : Nat)   : ∀ (n : Nat) (l0 : Nat) (l1 : Int32) (l2 : Int32) (l3 : Int32) (h : zH) (r : Int32 × zH), fW_lyndonEnd_6 N n  l0 l1 l2 l3 h = some r → zt xs (1) 33 6 [(0, .ref l0), (1, .int l1), (2, .int l2), (3, .int l3)] [] h 0 0 (zQ cI r) := by
  have hy := mfW_lyndonEnd
  intro n
  induction n with
  | zero =>
    intro l0 l1 l2 l3 h r e
    rw [fW_lyndonEnd_6] at e
    cases e
  | succ n ih =>
    intro l0 l1 l2 l3 h r e
    rw [fW_lyndonEnd_6] at e
    exact zl hy 2 (pc2 := 8) (lv2 := [(0, .ref l0), (1, .int l1), (2, .int l2), (3, .int l3)]) (st2 := [.ref l0, .int l3]) rfl <| zx_gI hy rfl e fun x1 _ e => zx_c hy rfl e (fun _ e => zt_sub (z_fc rfl (z_fc rfl (z_fn))) <| sfW_lyndonEnd_56 N   l1 l2 h _ e) (fun _ e => zl hy 2 (pc2 := 16) (lv2 := [(0, .ref l0), (1, .int l1), (2, .int l2), (3, .int l3)]) (st2 := [.int l3, .ref l0]) rfl <| zx_call hy (as := [.ref l0, .int l3]) (rest := []) (ov := (fun v => some (.int v))) (fun _ => rfl) rfl rfl (Or.inl rfl) rfl rfl (Nat.le_of_ble_eq_true rfl) (Nat.le_of_ble_eq_true rfl) (fun _ e _ => z_rcvT (rfW_at N l0 l3 h _ e)) (fun _ e => zt_deep (Nat.le_of_ble_eq_true rfl) (sfW_at N l0 l3 h _ e)) e fun x2 h3 _ e => zl hy 4 (pc2 := 23) (lv2 := [(0, .ref l0), (1, .int l1), (2, .int l2), (3, .int l3)]) (st2 := [.int (l3 - l2), .ref l0, .int x2]) rfl <| zx_call hy (as := [.ref l0, .int (l3 - l2)]) (rest := [.int x2]) (ov := (fun v => some (.int v))) (fun _ => rfl) rfl rfl (Or.inl rfl) rfl rfl (Nat.le_of_ble_eq_true rfl) (Nat.le_of_ble_eq_true rfl) (fun _ e _ => z_rcvT (rfW_at N l0 (l3 - l2) h3 _ e)) (fun _ e => zt_deep (Nat.le_of_ble_eq_true rfl) (sfW_at N l0 (l3 - l2) h3 _ e)) e fun x4 h5 _ e => zx_c hy rfl e (fun _ e => zt_sub (z_fc rfl (z_fc rfl (z_fn))) <| sfW_lyndonEnd_56 N   l1 l2 h5 _ e) (fun _ e => zl hy 2 (pc2 := 31) (lv2 := [(0, .ref l0), (1, .int l1), (2, .int l2), (3, .int l3)]) (st2 := [.int l3, .ref l0]) rfl <| zx_call hy (as := [.ref l0, .int l3]) (rest := []) (ov := (fun v => some (.int v))) (fun _ => rfl) rfl rfl (Or.inl rfl) rfl rfl (Nat.le_of_ble_eq_true rfl) (Nat.le_of_ble_eq_true rfl) (fun _ e _ => z_rcvT (rfW_at N l0 l3 h5 _ e)) (fun _ e => zt_deep (Nat.le_of_ble_eq_true rfl) (sfW_at N l0 l3 h5 _ e)) e fun x6 h7 _ e => zl hy 4 (pc2 := 38) (lv2 := [(0, .ref l0), (1, .int l1), (2, .int l2), (3, .int l3)]) (st2 := [.int (l3 - l2), .ref l0, .int x6]) rfl <| zx_call hy (as := [.ref l0, .int (l3 - l2)]) (rest := [.int x6]) (ov := (fun v => some (.int v))) (fun _ => rfl) rfl rfl (Or.inl rfl) rfl rfl (Nat.le_of_ble_eq_true rfl) (Nat.le_of_ble_eq_true rfl) (fun _ e _ => z_rcvT (rfW_at N l0 (l3 - l2) h7 _ e)) (fun _ e => zt_deep (Nat.le_of_ble_eq_true rfl) (sfW_at N l0 (l3 - l2) h7 _ e)) e fun x8 h9 _ e => zx_c hy rfl e (fun _ e => zt_sub (z_fc rfl (z_fc rfl (z_fc rfl (z_fc rfl (z_fn))))) <| sfW_lyndonEnd_50 N (fW_lyndonEnd_6 N n ) ih l0 l1 l2 l3 h9 _ e) (fun _ e => zl hy 6 (pc2 := 50) (lv2 := [(2, .int ((l3 - l1) + (Int32.ofInt 1))), (0, .ref l0), (1, .int l1), (3, .int l3)]) (st2 := []) rfl <| zt_sub (z_fc rfl (z_fc rfl (z_fc rfl (z_fc rfl (z_fn))))) <| sfW_lyndonEnd_50 N (fW_lyndonEnd_6 N n ) ih l0 l1 ((l3 - l1) + (Int32.ofInt 1)) l3 h9 _ e)))
def fW_lyndonEnd (N : Nat) (l0 : Nat) (l1 : Int32) (h : zH) : Option (Int32 × zH) := cond (fT h l0 4) (fW_lyndonEnd_6 N N  l0 l1 (Int32.ofInt 1) (l1 + (Int32.ofInt 1)) h) none
theorem sfW_lyndonEnd {xs : List Int32} (N : Nat) (l0 : Nat) (l1 : Int32) (h : zH) (r : Int32 × zH) (e : fW_lyndonEnd N l0 l1 h = some r) : zt xs (1) 33 0 [(0, .ref l0), (1, .int l1)] [] h 0 0 (zQ cI r) := by
  have hy := mfW_lyndonEnd
  unfold fW_lyndonEnd at e
  replace e := (cond_some e).2
  exact zl hy 6 (pc2 := 6) (lv2 := [(3, .int (l1 + (Int32.ofInt 1))), (2, .int (Int32.ofInt 1)), (0, .ref l0), (1, .int l1)]) (st2 := []) rfl <| zt_sub (z_fc rfl (z_fc rfl (z_fc rfl (z_fc rfl (z_fn))))) <| sfW_lyndonEnd_6 N   N l0 l1 (Int32.ofInt 1) (l1 + (Int32.ofInt 1)) h _ e
theorem rfW_lyndonEnd (N : Nat) (l0 : Nat) (l1 : Int32) (h : zH) (r : Int32 × zH) (e : fW_lyndonEnd N l0 l1 h = some r) : fT h l0 4 = true := by
  unfold fW_lyndonEnd at e
  exact (cond_some e).1
/-- LyndonBench$Word.isOneFactor()Z -/
theorem mfW_isOneFactor : z_me 36 zc_36 1 [] (some .boolean) := ⟨rfl, rfl, rfl, rfl⟩
def fW_isOneFactor_24 (N : Nat)  (s0 : Int32) (h : zH) : Option (Int32 × zH) := cond (decide (s0 = Int32.ofInt 0) || decide (s0 = Int32.ofInt 1)) (some (s0, h)) none
theorem sfW_isOneFactor_24 {xs : List Int32} (N : Nat)   (s0 : Int32) (h : zH) (r : Int32 × zH) (e : fW_isOneFactor_24 N  s0 h = some r) : zt xs (2) 36 24 [] [.int s0] h 0 0 (zQ cI r) := by
  have hy := mfW_isOneFactor
  unfold fW_isOneFactor_24 at e
  exact zx_retB hy rfl rfl e
def fW_isOneFactor_23 (N : Nat)   (h : zH) : Option (Int32 × zH) := fW_isOneFactor_24 N  (Int32.ofInt 0) h
theorem sfW_isOneFactor_23 {xs : List Int32} (N : Nat)    (h : zH) (r : Int32 × zH) (e : fW_isOneFactor_23 N   h = some r) : zt xs (2) 36 23 [] [] h 0 0 (zQ cI r) := by
  have hy := mfW_isOneFactor
  unfold fW_isOneFactor_23 at e
  exact zl hy 1 (pc2 := 24) (lv2 := []) (st2 := [.int (Int32.ofInt 0)]) rfl <| zt_sub (z_fn) <| sfW_isOneFactor_24 N   (Int32.ofInt 0) h _ e
def fW_isOneFactor (N : Nat) (l0 : Nat) (h : zH) : Option (Int32 × zH) := cond (fT h l0 4) (b1 (fI h l0 4 1) fun x1 => cond (z_cmp .le x1 (Int32.ofInt 0)) (fW_isOneFactor_23 N   h) (b2 (fW_lyndonEnd N l0 (Int32.ofInt 0) h) fun x2 h3 => b1 (fI h3 l0 4 1) fun x4 => cond (z_cmp .ne x2 x4) (fW_isOneFactor_23 N   h3) (fW_isOneFactor_24 N  (Int32.ofInt 1) h3))) none
theorem sfW_isOneFactor {xs : List Int32} (N : Nat) (l0 : Nat) (h : zH) (r : Int32 × zH) (e : fW_isOneFactor N l0 h = some r) : zt xs (2) 36 0 [(0, .ref l0)] [] h 0 0 (zQ cI r) := by
  have hy := mfW_isOneFactor
  unfold fW_isOneFactor at e
  replace e := (cond_some e).2
  exact zl hy 1 (pc2 := 1) (lv2 := [(0, .ref l0)]) (st2 := [.ref l0]) rfl <| zx_gI hy rfl e fun x1 _ e => zx_c0 hy rfl e (fun _ e => zt_sub (z_fn) <| sfW_isOneFactor_23 N    h _ e) (fun _ e => zl hy 2 (pc2 := 9) (lv2 := [(0, .ref l0)]) (st2 := [.int (Int32.ofInt 0), .ref l0]) rfl <| zx_call hy (as := [.ref l0, .int (Int32.ofInt 0)]) (rest := []) (ov := (fun v => some (.int v))) (fun _ => rfl) rfl rfl (Or.inl rfl) rfl rfl (Nat.le_of_ble_eq_true rfl) (Nat.le_of_ble_eq_true rfl) (fun _ e _ => z_rcvT (rfW_lyndonEnd N l0 (Int32.ofInt 0) h _ e)) (fun _ e => zt_deep (Nat.le_of_ble_eq_true rfl) (sfW_lyndonEnd N l0 (Int32.ofInt 0) h _ e)) e fun x2 h3 _ e => zl hy 1 (pc2 := 13) (lv2 := [(0, .ref l0)]) (st2 := [.ref l0, .int x2]) rfl <| zx_gI hy rfl e fun x4 _ e => zx_c hy rfl e (fun _ e => zt_sub (z_fn) <| sfW_isOneFactor_23 N    h3 _ e) (fun _ e => zl hy 2 (pc2 := 24) (lv2 := [(0, .ref l0)]) (st2 := [.int (Int32.ofInt 1)]) rfl <| zt_sub (z_fn) <| sfW_isOneFactor_24 N   (Int32.ofInt 1) h3 _ e))
theorem rfW_isOneFactor (N : Nat) (l0 : Nat) (h : zH) (r : Int32 × zH) (e : fW_isOneFactor N l0 h = some r) : fT h l0 4 = true := by
  unfold fW_isOneFactor at e
  exact (cond_some e).1
/-- LyndonBench$State.hasNext(I)Z -/
theorem mfS_hasNext : z_me 18 zc_18 2 [] (some .boolean) := ⟨rfl, rfl, rfl, rfl⟩
def fS_hasNext_41 (N : Nat)  (s0 : Int32) (h : zH) : Option (Int32 × zH) := cond (decide (s0 = Int32.ofInt 0) || decide (s0 = Int32.ofInt 1)) (some (s0, h)) none
theorem sfS_hasNext_41 {xs : List Int32} (N : Nat)   (s0 : Int32) (h : zH) (r : Int32 × zH) (e : fS_hasNext_41 N  s0 h = some r) : zt xs (3) 18 41 [] [.int s0] h 0 0 (zQ cI r) := by
  have hy := mfS_hasNext
  unfold fS_hasNext_41 at e
  exact zx_retB hy rfl rfl e
def fS_hasNext_40 (N : Nat)   (h : zH) : Option (Int32 × zH) := fS_hasNext_41 N  (Int32.ofInt 0) h
theorem sfS_hasNext_40 {xs : List Int32} (N : Nat)    (h : zH) (r : Int32 × zH) (e : fS_hasNext_40 N   h = some r) : zt xs (3) 18 40 [] [] h 0 0 (zQ cI r) := by
  have hy := mfS_hasNext
  unfold fS_hasNext_40 at e
  exact zl hy 1 (pc2 := 41) (lv2 := []) (st2 := [.int (Int32.ofInt 0)]) rfl <| zt_sub (z_fn) <| sfS_hasNext_41 N   (Int32.ofInt 0) h _ e
def fS_hasNext (N : Nat) (l0 : Nat) (l1 : Int32) (h : zH) : Option (Int32 × zH) := cond (fT h l0 3) (b1 (fR h l0 3 1) fun x1 => b1 (fI h x1 4 1) fun x2 => cond (z_cmp .gt x2 l1) (fS_hasNext_40 N   h) (b1 (fR h l0 3 1) fun x3 => b2 (fW_isOneFactor N x3 h) fun x4 h5 => cond (z_cmp .eq x4 (Int32.ofInt 0)) (fS_hasNext_40 N   h5) (b1 (fR h5 l0 3 1) fun x6 => b2 (fW_at N x6 (Int32.ofInt 0) h5) fun x7 h8 => b2 (fS_greatestLetter N l0 h8) fun x9 h10 => cond (z_cmp .eq x7 x9) (fS_hasNext_40 N   h10) (fS_hasNext_41 N  (Int32.ofInt 1) h10)))) none
theorem sfS_hasNext {xs : List Int32} (N : Nat) (l0 : Nat) (l1 : Int32) (h : zH) (r : Int32 × zH) (e : fS_hasNext N l0 l1 h = some r) : zt xs (3) 18 0 [(0, .ref l0), (1, .int l1)] [] h 0 0 (zQ cI r) := by
  have hy := mfS_hasNext
  unfold fS_hasNext at e
  replace e := (cond_some e).2
  exact zl hy 1 (pc2 := 1) (lv2 := [(0, .ref l0), (1, .int l1)]) (st2 := [.ref l0]) rfl <| zx_gR hy rfl e fun x1 _ e => zx_gI hy rfl e fun x2 _ e => zl hy 1 (pc2 := 8) (lv2 := [(0, .ref l0), (1, .int l1)]) (st2 := [.int l1, .int x2]) rfl <| zx_c hy rfl e (fun _ e => zt_sub (z_fn) <| sfS_hasNext_40 N    h _ e) (fun _ e => zl hy 1 (pc2 := 12) (lv2 := [(0, .ref l0), (1, .int l1)]) (st2 := [.ref l0]) rfl <| zx_gR hy rfl e fun x3 _ e => zx_call hy (as := [.ref x3]) (rest := []) (ov := (fun v => some (.int v))) (fun _ => rfl) rfl rfl (Or.inl rfl) rfl rfl (Nat.le_of_ble_eq_true rfl) (Nat.le_of_ble_eq_true rfl) (fun _ e _ => z_rcvT (rfW_isOneFactor N x3 h _ e)) (fun _ e => zt_deep (Nat.le_of_ble_eq_true rfl) (sfW_isOneFactor N x3 h _ e)) e fun x4 h5 _ e => zx_c0 hy rfl e (fun _ e => zt_sub (z_fn) <| sfS_hasNext_40 N    h5 _ e) (fun _ e => zl hy 1 (pc2 := 22) (lv2 := [(0, .ref l0), (1, .int l1)]) (st2 := [.ref l0]) rfl <| zx_gR hy rfl e fun x6 _ e => zl hy 1 (pc2 := 26) (lv2 := [(0, .ref l0), (1, .int l1)]) (st2 := [.int (Int32.ofInt 0), .ref x6]) rfl <| zx_call hy (as := [.ref x6, .int (Int32.ofInt 0)]) (rest := []) (ov := (fun v => some (.int v))) (fun _ => rfl) rfl rfl (Or.inl rfl) rfl rfl (Nat.le_of_ble_eq_true rfl) (Nat.le_of_ble_eq_true rfl) (fun _ e _ => z_rcvT (rfW_at N x6 (Int32.ofInt 0) h5 _ e)) (fun _ e => zt_deep (Nat.le_of_ble_eq_true rfl) (sfW_at N x6 (Int32.ofInt 0) h5 _ e)) e fun x7 h8 _ e => zl hy 1 (pc2 := 30) (lv2 := [(0, .ref l0), (1, .int l1)]) (st2 := [.ref l0, .int x7]) rfl <| zx_call hy (as := [.ref l0]) (rest := [.int x7]) (ov := (fun v => some (.int v))) (fun _ => rfl) rfl rfl (Or.inl rfl) rfl rfl (Nat.le_of_ble_eq_true rfl) (Nat.le_of_ble_eq_true rfl) (fun _ e _ => z_rcvT (rfS_greatestLetter N l0 h8 _ e)) (fun _ e => zt_deep (Nat.le_of_ble_eq_true rfl) (sfS_greatestLetter N l0 h8 _ e)) e fun x9 h10 _ e => zx_c hy rfl e (fun _ e => zt_sub (z_fn) <| sfS_hasNext_40 N    h10 _ e) (fun _ e => zl hy 2 (pc2 := 41) (lv2 := [(0, .ref l0), (1, .int l1)]) (st2 := [.int (Int32.ofInt 1)]) rfl <| zt_sub (z_fn) <| sfS_hasNext_41 N   (Int32.ofInt 1) h10 _ e)))
theorem rfS_hasNext (N : Nat) (l0 : Nat) (l1 : Int32) (h : zH) (r : Int32 × zH) (e : fS_hasNext N l0 l1 h = some r) : fT h l0 3 = true := by
  unfold fS_hasNext at e
  exact (cond_some e).1
/-- LyndonBench$Word.put(II)V -/
theorem mfW_put : z_me 21 zc_21 3 [] none := ⟨rfl, rfl, rfl, rfl⟩
def fW_put (N : Nat) (l0 : Nat) (l1 : Int32) (l2 : Int32) (h : zH) : Option (Unit × zH) := cond (fT h l0 4) (cond (z_cmp .lt l1 (Int32.ofInt 0)) (some ((), h)) (b1 (fI h l0 4 1) fun x1 => cond (z_cmp .ge l1 x1) (some ((), h)) (b1 (fR h l0 4 0) fun x2 => b1 (fN h x2 101) fun x3 => cond (z_cmp .ge l1 x3) (some ((), h)) (b1 (fR h l0 4 0) fun x4 => b1 (fAS h x4 101 l1 (.int (vp_nar .byte (l2).toInt8.toInt32))) fun h5 => some ((), h5))))) none
theorem sfW_put {xs : List Int32} (N : Nat) (l0 : Nat) (l1 : Int32) (l2 : Int32) (h : zH) (r : Unit × zH) (e : fW_put N l0 l1 l2 h = some r) : zt xs (0) 21 0 [(0, .ref l0), (1, .int l1), (2, .int l2)] [] h 0 0 (zQ cV r) := by
  have hy := mfW_put
  unfold fW_put at e
  replace e := (cond_some e).2
  exact zl hy 1 (pc2 := 1) (lv2 := [(0, .ref l0), (1, .int l1), (2, .int l2)]) (st2 := [.int l1]) rfl <| zx_c0 hy rfl e (fun _ e => zx_retV hy rfl rfl e) (fun _ e => zl hy 2 (pc2 := 6) (lv2 := [(0, .ref l0), (1, .int l1), (2, .int l2)]) (st2 := [.ref l0, .int l1]) rfl <| zx_gI hy rfl e fun x1 _ e => zx_c hy rfl e (fun _ e => zx_retV hy rfl rfl e) (fun _ e => zl hy 2 (pc2 := 14) (lv2 := [(0, .ref l0), (1, .int l1), (2, .int l2)]) (st2 := [.ref l0, .int l1]) rfl <| zx_gR hy rfl e fun x2 _ e => zx_len hy (Nat.le_of_ble_eq_true rfl) rfl e fun x3 _ e => zx_c hy rfl e (fun _ e => zx_retV hy rfl rfl e) (fun _ e => zl hy 1 (pc2 := 22) (lv2 := [(0, .ref l0), (1, .int l1), (2, .int l2)]) (st2 := [.ref l0]) rfl <| zx_gR hy rfl e fun x4 _ e => zl hy 3 (pc2 := 28) (lv2 := [(0, .ref l0), (1, .int l1), (2, .int l2)]) (st2 := [.int (l2).toInt8.toInt32, .int l1, .ref x4]) rfl <| zx_sI hy (j := .bastore) (Or.inr ⟨rfl, rfl, rfl⟩) rfl e fun h5 _ e => zx_retV hy rfl rfl e)))
theorem rfW_put (N : Nat) (l0 : Nat) (l1 : Int32) (l2 : Int32) (h : zH) (r : Unit × zH) (e : fW_put N l0 l1 l2 h = some r) : fT h l0 4 = true := by
  unfold fW_put at e
  exact (cond_some e).1
/-- java/lang/String.coder()B -/
theorem mfJ_coder : z_me 80 zc_80 1 [] (some .byte) := ⟨rfl, rfl, rfl, rfl⟩
def fJ_coder_14 (N : Nat)  (s0 : Int32) (h : zH) : Option (Int32 × zH) := cond (z_rok .ireturn (some .byte) (.int s0)) (some (s0, h)) none
theorem sfJ_coder_14 {xs : List Int32} (N : Nat)   (s0 : Int32) (h : zH) (r : Int32 × zH) (e : fJ_coder_14 N  s0 h = some r) : zt xs (0) 80 14 [] [.int s0] h 0 0 (zQ cI r) := by
  have hy := mfJ_coder
  unfold fJ_coder_14 at e
  exact zx_ret hy rfl rfl (cond_some e).1 rfl (cond_some e).2
def fJ_coder (N : Nat) (l0 : Nat) (h : zH) : Option (Int32 × zH) := cond (fT h l0 50) (cond (z_cmp .eq (Int32.ofInt 1) (Int32.ofInt 0)) (fJ_coder_14 N  (Int32.ofInt 1) h) (b1 (fI h l0 50 1) fun x1 => fJ_coder_14 N  x1 h)) none
theorem sfJ_coder {xs : List Int32} (N : Nat) (l0 : Nat) (h : zH) (r : Int32 × zH) (e : fJ_coder N l0 h = some r) : zt xs (0) 80 0 [(0, .ref l0)] [] h 0 0 (zQ cI r) := by
  have hy := mfJ_coder
  unfold fJ_coder at e
  replace e := (cond_some e).2
  exact zx_gs hy (v := .int (Int32.ofInt 1)) rfl rfl rfl <| zx_c0 hy rfl e (fun _ e => zl hy 1 (pc2 := 14) (lv2 := [(0, .ref l0)]) (st2 := [.int (Int32.ofInt 1)]) rfl <| zt_sub (z_fn) <| sfJ_coder_14 N   (Int32.ofInt 1) h _ e) (fun _ e => zl hy 1 (pc2 := 7) (lv2 := [(0, .ref l0)]) (st2 := [.ref l0]) rfl <| zx_gI hy rfl e fun x1 _ e => zl hy 1 (pc2 := 14) (lv2 := [(0, .ref l0)]) (st2 := [.int x1]) rfl <| zt_sub (z_fn) <| sfJ_coder_14 N   x1 h _ e)
theorem rfJ_coder (N : Nat) (l0 : Nat) (h : zH) (r : Int32 × zH) (e : fJ_coder N l0 h = some r) : fT h l0 50 = true := by
  unfold fJ_coder at e
  exact (cond_some e).1
/-- java/lang/String.length()I -/
theorem mfJ_length : z_me 78 zc_78 1 [] (some .int) := ⟨rfl, rfl, rfl, rfl⟩
def fJ_length (N : Nat) (l0 : Nat) (h : zH) : Option (Int32 × zH) := cond (fT h l0 50) (b1 (fR h l0 50 0) fun x1 => b1 (fN h x1 101) fun x2 => b2 (fJ_coder N l0 h) fun x3 h4 => some ((x2 >>> (x3 &&& 31)), h4)) none
theorem sfJ_length {xs : List Int32} (N : Nat) (l0 : Nat) (h : zH) (r : Int32 × zH) (e : fJ_length N l0 h = some r) : zt xs (1) 78 0 [(0, .ref l0)] [] h 0 0 (zQ cI r) := by
  have hy := mfJ_length
  unfold fJ_length at e
  replace e := (cond_some e).2
  exact zl hy 1 (pc2 := 1) (lv2 := [(0, .ref l0)]) (st2 := [.ref l0]) rfl <| zx_gR hy rfl e fun x1 _ e => zx_len hy (Nat.le_of_ble_eq_true rfl) rfl e fun x2 _ e => zl hy 1 (pc2 := 6) (lv2 := [(0, .ref l0)]) (st2 := [.ref l0, .int x2]) rfl <| zx_call hy (as := [.ref l0]) (rest := [.int x2]) (ov := (fun v => some (.int v))) (fun _ => rfl) rfl rfl (Or.inl rfl) rfl rfl (Nat.le_of_ble_eq_true rfl) (Nat.le_of_ble_eq_true rfl) (fun _ e _ => z_rcvT (rfJ_coder N l0 h _ e)) (fun _ e => zt_deep (Nat.le_of_ble_eq_true rfl) (sfJ_coder N l0 h _ e)) e fun x3 h4 _ e => zl hy 1 (pc2 := 10) (lv2 := [(0, .ref l0)]) (st2 := [.int (x2 >>> (x3 &&& 31))]) rfl <| zx_ret hy rfl rfl rfl rfl e
theorem rfJ_length (N : Nat) (l0 : Nat) (h : zH) (r : Int32 × zH) (e : fJ_length N l0 h = some r) : fT h l0 50 = true := by
  unfold fJ_length at e
  exact (cond_some e).1
/-- java/lang/String.isLatin1()Z -/
theorem mfJ_isLatin1 : z_me 81 zc_81 1 [] (some .boolean) := ⟨rfl, rfl, rfl, rfl⟩
def fJ_isLatin1_18 (N : Nat)  (s0 : Int32) (h : zH) : Option (Int32 × zH) := cond (decide (s0 = Int32.ofInt 0) || decide (s0 = Int32.ofInt 1)) (some (s0, h)) none
theorem sfJ_isLatin1_18 {xs : List Int32} (N : Nat)   (s0 : Int32) (h : zH) (r : Int32 × zH) (e : fJ_isLatin1_18 N  s0 h = some r) : zt xs (0) 81 18 [] [.int s0] h 0 0 (zQ cI r) := by
  have hy := mfJ_isLatin1
  unfold fJ_isLatin1_18 at e
  exact zx_retB hy rfl rfl e
def fJ_isLatin1_17 (N : Nat)   (h : zH) : Option (Int32 × zH) := fJ_isLatin1_18 N  (Int32.ofInt 0) h
theorem sfJ_isLatin1_17 {xs : List Int32} (N : Nat)    (h : zH) (r : Int32 × zH) (e : fJ_isLatin1_17 N   h = some r) : zt xs (0) 81 17 [] [] h 0 0 (zQ cI r) := by
  have hy := mfJ_isLatin1
  unfold fJ_isLatin1_17 at e
  exact zl hy 1 (pc2 := 18) (lv2 := []) (st2 := [.int (Int32.ofInt 0)]) rfl <| zt_sub (z_fn) <| sfJ_isLatin1_18 N   (Int32.ofInt 0) h _ e
def fJ_isLatin1 (N : Nat) (l0 : Nat) (h : zH) : Option (Int32 × zH) := cond (fT h l0 50) (cond (z_cmp .eq (Int32.ofInt 1) (Int32.ofInt 0)) (fJ_isLatin1_17 N   h) (b1 (fI h l0 50 1) fun x1 => cond (z_cmp .ne x1 (Int32.ofInt 0)) (fJ_isLatin1_17 N   h) (fJ_isLatin1_18 N  (Int32.ofInt 1) h))) none
theorem sfJ_isLatin1 {xs : List Int32} (N : Nat) (l0 : Nat) (h : zH) (r : Int32 × zH) (e : fJ_isLatin1 N l0 h = some r) : zt xs (0) 81 0 [(0, .ref l0)] [] h 0 0 (zQ cI r) := by
  have hy := mfJ_isLatin1
  unfold fJ_isLatin1 at e
  replace e := (cond_some e).2
  exact zx_gs hy (v := .int (Int32.ofInt 1)) rfl rfl rfl <| zx_c0 hy rfl e (fun _ e => zt_sub (z_fn) <| sfJ_isLatin1_17 N    h _ e) (fun _ e => zl hy 1 (pc2 := 7) (lv2 := [(0, .ref l0)]) (st2 := [.ref l0]) rfl <| zx_gI hy rfl e fun x1 _ e => zx_c0 hy rfl e (fun _ e => zt_sub (z_fn) <| sfJ_isLatin1_17 N    h _ e) (fun _ e => zl hy 2 (pc2 := 18) (lv2 := [(0, .ref l0)]) (st2 := [.int (Int32.ofInt 1)]) rfl <| zt_sub (z_fn) <| sfJ_isLatin1_18 N   (Int32.ofInt 1) h _ e))
theorem rfJ_isLatin1 (N : Nat) (l0 : Nat) (h : zH) (r : Int32 × zH) (e : fJ_isLatin1 N l0 h = some r) : fT h l0 50 = true := by
  unfold fJ_isLatin1 at e
  exact (cond_some e).1
/-- jdk/internal/util/Preconditions.checkIndex(IILjava/util/function/BiFunction;)I -/
theorem mfJP_checkIndex : z_me 84 zc_84 3 [] (some .int) := ⟨rfl, rfl, rfl, rfl⟩
def fJP_checkIndex_9 (N : Nat)  (l0 : Int32) (l1 : Int32) (l2 : Nat) (h : zH) : Option (Int32 × zH) := none
theorem sfJP_checkIndex_9 {xs : List Int32} (N : Nat)   (l0 : Int32) (l1 : Int32) (l2 : Nat) (h : zH) (r : Int32 × zH) (e : fJP_checkIndex_9 N  l0 l1 l2 h = some r) : zt xs (0) 84 9 [(0, .int l0), (1, .int l1), (2, .ref l2)] [] h 0 0 (zQ cI r) := by
  have hy := mfJP_checkIndex
  unfold fJP_checkIndex_9 at e
  exact (by cases e)
def fJP_checkIndex (N : Nat) (l0 : Int32) (l1 : Int32) (l2 : Nat) (h : zH) : Option (Int32 × zH) := cond (z_cmp .lt l0 (Int32.ofInt 0)) (fJP_checkIndex_9 N  l0 l1 l2 h) (cond (z_cmp .lt l0 l1) (some (l0, h)) (fJP_checkIndex_9 N  l0 l1 l2 h))
theorem sfJP_checkIndex {xs : List Int32} (N : Nat) (l0 : Int32) (l1 : Int32) (l2 : Nat) (h : zH) (r : Int32 × zH) (e : fJP_checkIndex N l0 l1 l2 h = some r) : zt xs (0) 84 0 [(0, .int l0), (1, .int l1), (2, .ref l2)] [] h 0 0 (zQ cI r) := by
  have hy := mfJP_checkIndex
  unfold fJP_checkIndex at e
  exact zl hy 1 (pc2 := 1) (lv2 := [(0, .int l0), (1, .int l1), (2, .ref l2)]) (st2 := [.int l0]) rfl <| zx_c0 hy rfl e (fun _ e => zt_sub (z_fc rfl (z_fc rfl (z_fc rfl (z_fn)))) <| sfJP_checkIndex_9 N   l0 l1 l2 h _ e) (fun _ e => zl hy 2 (pc2 := 6) (lv2 := [(0, .int l0), (1, .int l1), (2, .ref l2)]) (st2 := [.int l1, .int l0]) rfl <| zx_c hy rfl e (fun _ e => zl hy 1 (pc2 := 17) (lv2 := [(0, .int l0), (1, .int l1), (2, .ref l2)]) (st2 := [.int l0]) rfl <| zx_ret hy rfl rfl rfl rfl e) (fun _ e => zt_sub (z_fc rfl (z_fc rfl (z_fc rfl (z_fn)))) <| sfJP_checkIndex_9 N   l0 l1 l2 h _ e))
/-- java/lang/String.checkIndex(II)V -/
theorem mfJ_checkIndex : z_me 82 zc_82 2 [] none := ⟨rfl, rfl, rfl, rfl⟩
def fJ_checkIndex (N : Nat) (l0 : Int32) (l1 : Int32) (h : zH) : Option (Unit × zH) := b2 (fJP_checkIndex N l0 l1 2000000 h) fun x1 h2 => some ((), h2)
theorem sfJ_checkIndex {xs : List Int32} (N : Nat) (l0 : Int32) (l1 : Int32) (h : zH) (r : Unit × zH) (e : fJ_checkIndex N l0 l1 h = some r) : zt xs (1) 82 0 [(0, .int l0), (1, .int l1)] [] h 0 0 (zQ cV r) := by
  have hy := mfJ_checkIndex
  unfold fJ_checkIndex at e
  exact zl hy 2 (pc2 := 2) (lv2 := [(0, .int l0), (1, .int l1)]) (st2 := [.int l1, .int l0]) rfl <| zx_gs hy (v := .ref 2000000) rfl rfl rfl <| zx_call hy (as := [.int l0, .int l1, .ref 2000000]) (rest := []) (ov := (fun v => some (.int v))) (fun _ => rfl) rfl rfl (Or.inr (Or.inl rfl)) rfl rfl (Nat.le_of_ble_eq_true rfl) (Nat.le_of_ble_eq_true rfl) (fun _ _ hz => absurd rfl hz) (fun _ e => zt_deep (Nat.le_of_ble_eq_true rfl) (sfJP_checkIndex N l0 l1 2000000 h _ e)) e fun x1 h2 _ e => zl hy 1 (pc2 := 9) (lv2 := [(0, .int l0), (1, .int l1)]) (st2 := []) rfl <| zx_retV hy rfl rfl e
/-- java/lang/StringLatin1.charAt([BI)C -/
theorem mfJL_charAt : z_me 83 zc_83 2 [] (some .char) := ⟨rfl, rfl, rfl, rfl⟩
def fJL_charAt (N : Nat) (l0 : Nat) (l1 : Int32) (h : zH) : Option (Int32 × zH) := b1 (fN h l0 101) fun x1 => b2 (fJ_checkIndex N l1 x1 h) fun _ h3 => b1 (fAI h3 l0 101 l1) fun x4 => cond (z_rok .ireturn (some .char) (.int (((x4 &&& (Int32.ofInt 255))).toUInt32 % 65536).toInt32)) (some ((((x4 &&& (Int32.ofInt 255))).toUInt32 % 65536).toInt32, h3)) none
theorem sfJL_charAt {xs : List Int32} (N : Nat) (l0 : Nat) (l1 : Int32) (h : zH) (r : Int32 × zH) (e : fJL_charAt N l0 l1 h = some r) : zt xs (2) 83 0 [(0, .ref l0), (1, .int l1)] [] h 0 0 (zQ cI r) := by
  have hy := mfJL_charAt
  unfold fJL_charAt at e
  exact zl hy 2 (pc2 := 2) (lv2 := [(0, .ref l0), (1, .int l1)]) (st2 := [.ref l0, .int l1]) rfl <| zx_len hy (Nat.le_of_ble_eq_true rfl) rfl e fun x1 _ e => zx_call hy (as := [.int l1, .int x1]) (rest := []) (ov := (fun _ => none)) (fun _ => rfl) rfl rfl (Or.inr (Or.inl rfl)) rfl rfl (Nat.le_of_ble_eq_true rfl) (Nat.le_of_ble_eq_true rfl) (fun _ _ hz => absurd rfl hz) (fun _ e => zt_deep (Nat.le_of_ble_eq_true rfl) (sfJ_checkIndex N l1 x1 h _ e)) e fun _ h3 _ e => zl hy 2 (pc2 := 8) (lv2 := [(0, .ref l0), (1, .int l1)]) (st2 := [.int l1, .ref l0]) rfl <| zx_aI hy (j := .baload) (Or.inr ⟨rfl, rfl⟩) rfl e fun x4 _ e => zx_sip hy (c := 255) rfl (by decide) <| zl hy 2 (pc2 := 14) (lv2 := [(0, .ref l0), (1, .int l1)]) (st2 := [.int (((x4 &&& (Int32.ofInt 255))).toUInt32 % 65536).toInt32]) rfl <| zx_ret hy rfl rfl (cond_some e).1 rfl (cond_some e).2
