/-! F functions, by program. -/
/-- LyndonBench.isLyndon()Z -/
theorem mfB_isLyndon : z_me 112 zc_112 1 [] (some .boolean) := ⟨z_me0 rfl, rfl, rfl, rfl⟩
def fB_isLyndon (N : Nat) (l0 : Nat) (h : zH) : Option (Int32 × zH) := cond (fT h l0 0) (b1 (fR h l0 0 0) fun x1 => b1 (fR h x1 3 1) fun x2 => b2 (fW_isOneFactor N x2 h) fun x3 h4 => cond (decide (x3 = Int32.ofInt 0) || decide (x3 = Int32.ofInt 1)) (some (x3, h4)) none) none
theorem sfB_isLyndon {xs : List Int32} (N : Nat) (l0 : Nat) (h : zH) (r : Int32 × zH) (e : fB_isLyndon N l0 h = some r) : zt xs (4) 112 0 [(0, .ref l0)] [] h 0 0 (zQ cI r) := by
  have hy := mfB_isLyndon
  unfold fB_isLyndon at e
  replace e := (cond_some e).2
  exact zl hy 1 (pc2 := 1) (lv2 := [(0, .ref l0)]) (st2 := [.ref l0]) rfl <| zx_gR hy rfl e fun x1 _ e => zx_gR hy rfl e fun x2 _ e => zx_call hy (as := [.ref x2]) (rest := []) (ov := (fun v => some (.int v))) (fun _ => rfl) rfl rfl (Or.inl rfl) rfl rfl (Nat.le_of_ble_eq_true rfl) (Nat.le_of_ble_eq_true rfl) (fun _ e _ => z_rcvT (rfW_isOneFactor N x2 h _ e)) (fun _ e => zt_deep (Nat.le_of_ble_eq_true rfl) (sfW_isOneFactor N x2 h _ e)) e fun x3 h4 _ e => zx_retB hy rfl rfl e
theorem rfB_isLyndon (N : Nat) (l0 : Nat) (h : zH) (r : Int32 × zH) (e : fB_isLyndon N l0 h = some r) : fT h l0 0 = true := by
  unfold fB_isLyndon at e
  exact (cond_some e).1
/-- LyndonBench.whyNotLyndon()I -/
theorem mfB_whyNotLyndon : z_me 113 zc_113 1 [] (some .int) := ⟨z_me0 rfl, rfl, rfl, rfl⟩
def fB_whyNotLyndon_58 (N : Nat)  (s0 : Int32) (h : zH) : Option (Int32 × zH) := some (s0, h)
theorem sfB_whyNotLyndon_58 {xs : List Int32} (N : Nat)   (s0 : Int32) (h : zH) (r : Int32 × zH) (e : fB_whyNotLyndon_58 N  s0 h = some r) : zt xs (5) 113 58 [] [.int s0] h 0 0 (zQ cI r) := by
  have hy := mfB_whyNotLyndon
  unfold fB_whyNotLyndon_58 at e
  exact zx_ret hy rfl rfl rfl rfl e
def fB_whyNotLyndon (N : Nat) (l0 : Nat) (h : zH) : Option (Int32 × zH) := cond (fT h l0 0) (b1 (fR h l0 0 0) fun x1 => b1 (fR h x1 3 1) fun x2 => b1 (fI h x2 4 1) fun x3 => cond (z_cmp .ne x3 (Int32.ofInt 0)) (b1 (fR h l0 0 0) fun x4 => b1 (fR h x4 3 1) fun x5 => b2 (fW_countTurns N x5 h) fun x6 h7 => b1 (fR h7 l0 0 0) fun x8 => b1 (fR h7 x8 3 1) fun x9 => b1 (fI h7 x9 4 1) fun x10 => cond (z_cmp .ge x6 x10) (b1 (fR h7 l0 0 0) fun x11 => b1 (fR h7 x11 3 1) fun x12 => b2 (fW_leastTurn N x12 h7) fun x13 h14 => cond (z_cmp .ne x13 (Int32.ofInt 0)) (fB_whyNotLyndon_58 N  (Int32.ofInt 3) h14) (fB_whyNotLyndon_58 N  (Int32.ofInt 0) h14)) (some ((Int32.ofInt 2), h7))) (some ((Int32.ofInt 1), h))) none
theorem sfB_whyNotLyndon {xs : List Int32} (N : Nat) (l0 : Nat) (h : zH) (r : Int32 × zH) (e : fB_whyNotLyndon N l0 h = some r) : zt xs (5) 113 0 [(0, .ref l0)] [] h 0 0 (zQ cI r) := by
  have hy := mfB_whyNotLyndon
  unfold fB_whyNotLyndon at e
  replace e := (cond_some e).2
  exact zl hy 1 (pc2 := 1) (lv2 := [(0, .ref l0)]) (st2 := [.ref l0]) rfl <| zx_gR hy rfl e fun x1 _ e => zx_gR hy rfl e fun x2 _ e => zx_gI hy rfl e fun x3 _ e => zx_c0 hy rfl e (fun _ e => zl hy 1 (pc2 := 16) (lv2 := [(0, .ref l0)]) (st2 := [.ref l0]) rfl <| zx_gR hy rfl e fun x4 _ e => zx_gR hy rfl e fun x5 _ e => zx_call hy (as := [.ref x5]) (rest := []) (ov := (fun v => some (.int v))) (fun _ => rfl) rfl rfl (Or.inl rfl) rfl rfl (Nat.le_of_ble_eq_true rfl) (Nat.le_of_ble_eq_true rfl) (fun _ e _ => z_rcvT (rfW_countTurns N x5 h _ e)) (fun _ e => zt_deep (Nat.le_of_ble_eq_true rfl) (sfW_countTurns N x5 h _ e)) e fun x6 h7 _ e => zl hy 1 (pc2 := 26) (lv2 := [(0, .ref l0)]) (st2 := [.ref l0, .int x6]) rfl <| zx_gR hy rfl e fun x8 _ e => zx_gR hy rfl e fun x9 _ e => zx_gI hy rfl e fun x10 _ e => zx_c hy rfl e (fun _ e => zl hy 1 (pc2 := 41) (lv2 := [(0, .ref l0)]) (st2 := [.ref l0]) rfl <| zx_gR hy rfl e fun x11 _ e => zx_gR hy rfl e fun x12 _ e => zx_call hy (as := [.ref x12]) (rest := []) (ov := (fun v => some (.int v))) (fun _ => rfl) rfl rfl (Or.inl rfl) rfl rfl (Nat.le_of_ble_eq_true rfl) (Nat.le_of_ble_eq_true rfl) (fun _ e _ => z_rcvT (rfW_leastTurn N x12 h7 _ e)) (fun _ e => zt_deep (Nat.le_of_ble_eq_true rfl) (sfW_leastTurn N x12 h7 _ e)) e fun x13 h14 _ e => zx_c0 hy rfl e (fun _ e => zl hy 1 (pc2 := 58) (lv2 := [(0, .ref l0)]) (st2 := [.int (Int32.ofInt 3)]) rfl <| zt_sub (z_fn) <| sfB_whyNotLyndon_58 N   (Int32.ofInt 3) h14 _ e) (fun _ e => zl hy 2 (pc2 := 58) (lv2 := [(0, .ref l0)]) (st2 := [.int (Int32.ofInt 0)]) rfl <| zt_sub (z_fn) <| sfB_whyNotLyndon_58 N   (Int32.ofInt 0) h14 _ e)) (fun _ e => zl hy 1 (pc2 := 39) (lv2 := [(0, .ref l0)]) (st2 := [.int (Int32.ofInt 2)]) rfl <| zx_ret hy rfl rfl rfl rfl e)) (fun _ e => zl hy 1 (pc2 := 14) (lv2 := [(0, .ref l0)]) (st2 := [.int (Int32.ofInt 1)]) rfl <| zx_ret hy rfl rfl rfl rfl e)
theorem rfB_whyNotLyndon (N : Nat) (l0 : Nat) (h : zH) (r : Int32 × zH) (e : fB_whyNotLyndon N l0 h = some r) : fT h l0 0 = true := by
  unfold fB_whyNotLyndon at e
  exact (cond_some e).1
/-- LyndonBench.isNecklace()Z -/
theorem mfB_isNecklace : z_me 114 zc_114 1 [] (some .boolean) := ⟨z_me0 rfl, rfl, rfl, rfl⟩
def fB_isNecklace_31 (N : Nat)  (s0 : Int32) (h : zH) : Option (Int32 × zH) := cond (decide (s0 = Int32.ofInt 0) || decide (s0 = Int32.ofInt 1)) (some (s0, h)) none
theorem sfB_isNecklace_31 {xs : List Int32} (N : Nat)   (s0 : Int32) (h : zH) (r : Int32 × zH) (e : fB_isNecklace_31 N  s0 h = some r) : zt xs (4) 114 31 [] [.int s0] h 0 0 (zQ cI r) := by
  have hy := mfB_isNecklace
  unfold fB_isNecklace_31 at e
  exact zx_retB hy rfl rfl e
def fB_isNecklace_30 (N : Nat)   (h : zH) : Option (Int32 × zH) := fB_isNecklace_31 N  (Int32.ofInt 0) h
theorem sfB_isNecklace_30 {xs : List Int32} (N : Nat)    (h : zH) (r : Int32 × zH) (e : fB_isNecklace_30 N   h = some r) : zt xs (4) 114 30 [] [] h 0 0 (zQ cI r) := by
  have hy := mfB_isNecklace
  unfold fB_isNecklace_30 at e
  exact zl hy 1 (pc2 := 31) (lv2 := []) (st2 := [.int (Int32.ofInt 0)]) rfl <| zt_sub (z_fn) <| sfB_isNecklace_31 N   (Int32.ofInt 0) h _ e
def fB_isNecklace (N : Nat) (l0 : Nat) (h : zH) : Option (Int32 × zH) := cond (fT h l0 0) (b1 (fR h l0 0 0) fun x1 => b1 (fR h x1 3 1) fun x2 => b1 (fI h x2 4 1) fun x3 => cond (z_cmp .le x3 (Int32.ofInt 0)) (fB_isNecklace_30 N   h) (b1 (fR h l0 0 0) fun x4 => b1 (fR h x4 3 1) fun x5 => b2 (fW_leastTurn N x5 h) fun x6 h7 => cond (z_cmp .ne x6 (Int32.ofInt 0)) (fB_isNecklace_30 N   h7) (fB_isNecklace_31 N  (Int32.ofInt 1) h7))) none
theorem sfB_isNecklace {xs : List Int32} (N : Nat) (l0 : Nat) (h : zH) (r : Int32 × zH) (e : fB_isNecklace N l0 h = some r) : zt xs (4) 114 0 [(0, .ref l0)] [] h 0 0 (zQ cI r) := by
  have hy := mfB_isNecklace
  unfold fB_isNecklace at e
  replace e := (cond_some e).2
  exact zl hy 1 (pc2 := 1) (lv2 := [(0, .ref l0)]) (st2 := [.ref l0]) rfl <| zx_gR hy rfl e fun x1 _ e => zx_gR hy rfl e fun x2 _ e => zx_gI hy rfl e fun x3 _ e => zx_c0 hy rfl e (fun _ e => zt_sub (z_fn) <| sfB_isNecklace_30 N    h _ e) (fun _ e => zl hy 1 (pc2 := 14) (lv2 := [(0, .ref l0)]) (st2 := [.ref l0]) rfl <| zx_gR hy rfl e fun x4 _ e => zx_gR hy rfl e fun x5 _ e => zx_call hy (as := [.ref x5]) (rest := []) (ov := (fun v => some (.int v))) (fun _ => rfl) rfl rfl (Or.inl rfl) rfl rfl (Nat.le_of_ble_eq_true rfl) (Nat.le_of_ble_eq_true rfl) (fun _ e _ => z_rcvT (rfW_leastTurn N x5 h _ e)) (fun _ e => zt_deep (Nat.le_of_ble_eq_true rfl) (sfW_leastTurn N x5 h _ e)) e fun x6 h7 _ e => zx_c0 hy rfl e (fun _ e => zt_sub (z_fn) <| sfB_isNecklace_30 N    h7 _ e) (fun _ e => zl hy 2 (pc2 := 31) (lv2 := [(0, .ref l0)]) (st2 := [.int (Int32.ofInt 1)]) rfl <| zt_sub (z_fn) <| sfB_isNecklace_31 N   (Int32.ofInt 1) h7 _ e))
theorem rfB_isNecklace (N : Nat) (l0 : Nat) (h : zH) (r : Int32 × zH) (e : fB_isNecklace N l0 h = some r) : fT h l0 0 = true := by
  unfold fB_isNecklace at e
  exact (cond_some e).1
/-- LyndonBench.isPrenecklace()Z -/
theorem mfB_isPrenecklace : z_me 115 zc_115 1 [] (some .boolean) := ⟨z_me0 rfl, rfl, rfl, rfl⟩
def fB_isPrenecklace (N : Nat) (l0 : Nat) (h : zH) : Option (Int32 × zH) := cond (fT h l0 0) (b1 (fR h l0 0 0) fun x1 => b1 (fR h x1 3 1) fun x2 => b2 (fW_beginsNecklace N x2 h) fun x3 h4 => cond (decide (x3 = Int32.ofInt 0) || decide (x3 = Int32.ofInt 1)) (some (x3, h4)) none) none
theorem sfB_isPrenecklace {xs : List Int32} (N : Nat) (l0 : Nat) (h : zH) (r : Int32 × zH) (e : fB_isPrenecklace N l0 h = some r) : zt xs (4) 115 0 [(0, .ref l0)] [] h 0 0 (zQ cI r) := by
  have hy := mfB_isPrenecklace
  unfold fB_isPrenecklace at e
  replace e := (cond_some e).2
  exact zl hy 1 (pc2 := 1) (lv2 := [(0, .ref l0)]) (st2 := [.ref l0]) rfl <| zx_gR hy rfl e fun x1 _ e => zx_gR hy rfl e fun x2 _ e => zx_call hy (as := [.ref x2]) (rest := []) (ov := (fun v => some (.int v))) (fun _ => rfl) rfl rfl (Or.inl rfl) rfl rfl (Nat.le_of_ble_eq_true rfl) (Nat.le_of_ble_eq_true rfl) (fun _ e _ => z_rcvT (rfW_beginsNecklace N x2 h _ e)) (fun _ e => zt_deep (Nat.le_of_ble_eq_true rfl) (sfW_beginsNecklace N x2 h _ e)) e fun x3 h4 _ e => zx_retB hy rfl rfl e
theorem rfB_isPrenecklace (N : Nat) (l0 : Nat) (h : zH) (r : Int32 × zH) (e : fB_isPrenecklace N l0 h = some r) : fT h l0 0 = true := by
  unfold fB_isPrenecklace at e
  exact (cond_some e).1
/-- LyndonBench.keepingLetter()I -/
theorem mfB_keepingLetter : z_me 116 zc_116 1 [] (some .int) := ⟨z_me0 rfl, rfl, rfl, rfl⟩
def fB_keepingLetter (N : Nat) (l0 : Nat) (h : zH) : Option (Int32 × zH) := cond (fT h l0 0) (b1 (fR h l0 0 0) fun x1 => b1 (fR h x1 3 1) fun x2 => b2 (fW_beginsNecklace N x2 h) fun x3 h4 => cond (z_cmp .ne x3 (Int32.ofInt 0)) (b1 (fR h4 l0 0 0) fun x5 => b1 (fR h4 x5 3 1) fun x6 => b1 (fR h4 l0 0 0) fun x7 => b1 (fR h4 x7 3 1) fun x8 => b1 (fI h4 x8 4 1) fun x9 => b1 (fR h4 l0 0 0) fun x10 => b1 (fR h4 x10 3 1) fun x11 => b2 (fW_lyndonEnd N x11 (Int32.ofInt 0) h4) fun x12 h13 => b2 (fW_at N x6 (x9 - x12) h13) fun x14 h15 => some (x14, h15)) (some ((Int32.ofInt (-1)), h4))) none
theorem sfB_keepingLetter {xs : List Int32} (N : Nat) (l0 : Nat) (h : zH) (r : Int32 × zH) (e : fB_keepingLetter N l0 h = some r) : zt xs (4) 116 0 [(0, .ref l0)] [] h 0 0 (zQ cI r) := by
  have hy := mfB_keepingLetter
  unfold fB_keepingLetter at e
  replace e := (cond_some e).2
  exact zl hy 1 (pc2 := 1) (lv2 := [(0, .ref l0)]) (st2 := [.ref l0]) rfl <| zx_gR hy rfl e fun x1 _ e => zx_gR hy rfl e fun x2 _ e => zx_call hy (as := [.ref x2]) (rest := []) (ov := (fun v => some (.int v))) (fun _ => rfl) rfl rfl (Or.inl rfl) rfl rfl (Nat.le_of_ble_eq_true rfl) (Nat.le_of_ble_eq_true rfl) (fun _ e _ => z_rcvT (rfW_beginsNecklace N x2 h _ e)) (fun _ e => zt_deep (Nat.le_of_ble_eq_true rfl) (sfW_beginsNecklace N x2 h _ e)) e fun x3 h4 _ e => zx_c0 hy rfl e (fun _ e => zl hy 1 (pc2 := 16) (lv2 := [(0, .ref l0)]) (st2 := [.ref l0]) rfl <| zx_gR hy rfl e fun x5 _ e => zx_gR hy rfl e fun x6 _ e => zl hy 1 (pc2 := 23) (lv2 := [(0, .ref l0)]) (st2 := [.ref l0, .ref x6]) rfl <| zx_gR hy rfl e fun x7 _ e => zx_gR hy rfl e fun x8 _ e => zx_gI hy rfl e fun x9 _ e => zl hy 1 (pc2 := 33) (lv2 := [(0, .ref l0)]) (st2 := [.ref l0, .int x9, .ref x6]) rfl <| zx_gR hy rfl e fun x10 _ e => zx_gR hy rfl e fun x11 _ e => zl hy 1 (pc2 := 40) (lv2 := [(0, .ref l0)]) (st2 := [.int (Int32.ofInt 0), .ref x11, .int x9, .ref x6]) rfl <| zx_call hy (as := [.ref x11, .int (Int32.ofInt 0)]) (rest := [.int x9, .ref x6]) (ov := (fun v => some (.int v))) (fun _ => rfl) rfl rfl (Or.inl rfl) rfl rfl (Nat.le_of_ble_eq_true rfl) (Nat.le_of_ble_eq_true rfl) (fun _ e _ => z_rcvT (rfW_lyndonEnd N x11 (Int32.ofInt 0) h4 _ e)) (fun _ e => zt_deep (Nat.le_of_ble_eq_true rfl) (sfW_lyndonEnd N x11 (Int32.ofInt 0) h4 _ e)) e fun x12 h13 _ e => zl hy 1 (pc2 := 44) (lv2 := [(0, .ref l0)]) (st2 := [.int (x9 - x12), .ref x6]) rfl <| zx_call hy (as := [.ref x6, .int (x9 - x12)]) (rest := []) (ov := (fun v => some (.int v))) (fun _ => rfl) rfl rfl (Or.inl rfl) rfl rfl (Nat.le_of_ble_eq_true rfl) (Nat.le_of_ble_eq_true rfl) (fun _ e _ => z_rcvT (rfW_at N x6 (x9 - x12) h13 _ e)) (fun _ e => zt_deep (Nat.le_of_ble_eq_true rfl) (sfW_at N x6 (x9 - x12) h13 _ e)) e fun x14 h15 _ e => zx_ret hy rfl rfl rfl rfl e) (fun _ e => zl hy 1 (pc2 := 14) (lv2 := [(0, .ref l0)]) (st2 := [.int (Int32.ofInt (-1))]) rfl <| zx_ret hy rfl rfl rfl rfl e)
theorem rfB_keepingLetter (N : Nat) (l0 : Nat) (h : zH) (r : Int32 × zH) (e : fB_keepingLetter N l0 h = some r) : fT h l0 0 = true := by
  unfold fB_keepingLetter at e
  exact (cond_some e).1
/-- LyndonBench.leastRotation()I -/
theorem mfB_leastRotation : z_me 117 zc_117 1 [] (some .int) := ⟨z_me0 rfl, rfl, rfl, rfl⟩
def fB_leastRotation (N : Nat) (l0 : Nat) (h : zH) : Option (Int32 × zH) := cond (fT h l0 0) (b1 (fR h l0 0 0) fun x1 => b1 (fR h x1 3 1) fun x2 => b2 (fW_leastTurn N x2 h) fun x3 h4 => some (x3, h4)) none
theorem sfB_leastRotation {xs : List Int32} (N : Nat) (l0 : Nat) (h : zH) (r : Int32 × zH) (e : fB_leastRotation N l0 h = some r) : zt xs (4) 117 0 [(0, .ref l0)] [] h 0 0 (zQ cI r) := by
  have hy := mfB_leastRotation
  unfold fB_leastRotation at e
  replace e := (cond_some e).2
  exact zl hy 1 (pc2 := 1) (lv2 := [(0, .ref l0)]) (st2 := [.ref l0]) rfl <| zx_gR hy rfl e fun x1 _ e => zx_gR hy rfl e fun x2 _ e => zx_call hy (as := [.ref x2]) (rest := []) (ov := (fun v => some (.int v))) (fun _ => rfl) rfl rfl (Or.inl rfl) rfl rfl (Nat.le_of_ble_eq_true rfl) (Nat.le_of_ble_eq_true rfl) (fun _ e _ => z_rcvT (rfW_leastTurn N x2 h _ e)) (fun _ e => zt_deep (Nat.le_of_ble_eq_true rfl) (sfW_leastTurn N x2 h _ e)) e fun x3 h4 _ e => zx_ret hy rfl rfl rfl rfl e
theorem rfB_leastRotation (N : Nat) (l0 : Nat) (h : zH) (r : Int32 × zH) (e : fB_leastRotation N l0 h = some r) : fT h l0 0 = true := by
  unfold fB_leastRotation at e
  exact (cond_some e).1
/-- LyndonBench.rotationCount()I -/
theorem mfB_rotationCount : z_me 118 zc_118 1 [] (some .int) := ⟨z_me0 rfl, rfl, rfl, rfl⟩
def fB_rotationCount (N : Nat) (l0 : Nat) (h : zH) : Option (Int32 × zH) := cond (fT h l0 0) (b1 (fR h l0 0 0) fun x1 => b1 (fR h x1 3 1) fun x2 => b2 (fW_countTurns N x2 h) fun x3 h4 => some (x3, h4)) none
theorem sfB_rotationCount {xs : List Int32} (N : Nat) (l0 : Nat) (h : zH) (r : Int32 × zH) (e : fB_rotationCount N l0 h = some r) : zt xs (5) 118 0 [(0, .ref l0)] [] h 0 0 (zQ cI r) := by
  have hy := mfB_rotationCount
  unfold fB_rotationCount at e
  replace e := (cond_some e).2
  exact zl hy 1 (pc2 := 1) (lv2 := [(0, .ref l0)]) (st2 := [.ref l0]) rfl <| zx_gR hy rfl e fun x1 _ e => zx_gR hy rfl e fun x2 _ e => zx_call hy (as := [.ref x2]) (rest := []) (ov := (fun v => some (.int v))) (fun _ => rfl) rfl rfl (Or.inl rfl) rfl rfl (Nat.le_of_ble_eq_true rfl) (Nat.le_of_ble_eq_true rfl) (fun _ e _ => z_rcvT (rfW_countTurns N x2 h _ e)) (fun _ e => zt_deep (Nat.le_of_ble_eq_true rfl) (sfW_countTurns N x2 h _ e)) e fun x3 h4 _ e => zx_ret hy rfl rfl rfl rfl e
theorem rfB_rotationCount (N : Nat) (l0 : Nat) (h : zH) (r : Int32 × zH) (e : fB_rotationCount N l0 h = some r) : fT h l0 0 = true := by
  unfold fB_rotationCount at e
  exact (cond_some e).1
/-- LyndonBench.smallestPeriod()I -/
theorem mfB_smallestPeriod : z_me 119 zc_119 1 [] (some .int) := ⟨z_me0 rfl, rfl, rfl, rfl⟩
def fB_smallestPeriod (N : Nat) (l0 : Nat) (h : zH) : Option (Int32 × zH) := cond (fT h l0 0) (b1 (fR h l0 0 0) fun x1 => b1 (fR h x1 3 1) fun x2 => b2 (fW_leastPeriod N x2 h) fun x3 h4 => some (x3, h4)) none
theorem sfB_smallestPeriod {xs : List Int32} (N : Nat) (l0 : Nat) (h : zH) (r : Int32 × zH) (e : fB_smallestPeriod N l0 h = some r) : zt xs (4) 119 0 [(0, .ref l0)] [] h 0 0 (zQ cI r) := by
  have hy := mfB_smallestPeriod
  unfold fB_smallestPeriod at e
  replace e := (cond_some e).2
  exact zl hy 1 (pc2 := 1) (lv2 := [(0, .ref l0)]) (st2 := [.ref l0]) rfl <| zx_gR hy rfl e fun x1 _ e => zx_gR hy rfl e fun x2 _ e => zx_call hy (as := [.ref x2]) (rest := []) (ov := (fun v => some (.int v))) (fun _ => rfl) rfl rfl (Or.inl rfl) rfl rfl (Nat.le_of_ble_eq_true rfl) (Nat.le_of_ble_eq_true rfl) (fun _ e _ => z_rcvT (rfW_leastPeriod N x2 h _ e)) (fun _ e => zt_deep (Nat.le_of_ble_eq_true rfl) (sfW_leastPeriod N x2 h _ e)) e fun x3 h4 _ e => zx_ret hy rfl rfl rfl rfl e
theorem rfB_smallestPeriod (N : Nat) (l0 : Nat) (h : zH) (r : Int32 × zH) (e : fB_smallestPeriod N l0 h = some r) : fT h l0 0 = true := by
  unfold fB_smallestPeriod at e
  exact (cond_some e).1
/-- LyndonBench.longestBorder()I -/
theorem mfB_longestBorder : z_me 120 zc_120 1 [] (some .int) := ⟨z_me0 rfl, rfl, rfl, rfl⟩
def fB_longestBorder (N : Nat) (l0 : Nat) (h : zH) : Option (Int32 × zH) := cond (fT h l0 0) (b1 (fR h l0 0 0) fun x1 => b1 (fR h x1 3 1) fun x2 => b1 (fI h x2 4 1) fun x3 => b1 (fR h l0 0 0) fun x4 => b1 (fR h x4 3 1) fun x5 => b2 (fW_leastPeriod N x5 h) fun x6 h7 => some ((x3 - x6), h7)) none
theorem sfB_longestBorder {xs : List Int32} (N : Nat) (l0 : Nat) (h : zH) (r : Int32 × zH) (e : fB_longestBorder N l0 h = some r) : zt xs (4) 120 0 [(0, .ref l0)] [] h 0 0 (zQ cI r) := by
  have hy := mfB_longestBorder
  unfold fB_longestBorder at e
  replace e := (cond_some e).2
  exact zl hy 1 (pc2 := 1) (lv2 := [(0, .ref l0)]) (st2 := [.ref l0]) rfl <| zx_gR hy rfl e fun x1 _ e => zx_gR hy rfl e fun x2 _ e => zx_gI hy rfl e fun x3 _ e => zl hy 1 (pc2 := 11) (lv2 := [(0, .ref l0)]) (st2 := [.ref l0, .int x3]) rfl <| zx_gR hy rfl e fun x4 _ e => zx_gR hy rfl e fun x5 _ e => zx_call hy (as := [.ref x5]) (rest := [.int x3]) (ov := (fun v => some (.int v))) (fun _ => rfl) rfl rfl (Or.inl rfl) rfl rfl (Nat.le_of_ble_eq_true rfl) (Nat.le_of_ble_eq_true rfl) (fun _ e _ => z_rcvT (rfW_leastPeriod N x5 h _ e)) (fun _ e => zt_deep (Nat.le_of_ble_eq_true rfl) (sfW_leastPeriod N x5 h _ e)) e fun x6 h7 _ e => zl hy 1 (pc2 := 21) (lv2 := [(0, .ref l0)]) (st2 := [.int (x3 - x6)]) rfl <| zx_ret hy rfl rfl rfl rfl e
theorem rfB_longestBorder (N : Nat) (l0 : Nat) (h : zH) (r : Int32 × zH) (e : fB_longestBorder N l0 h = some r) : fT h l0 0 = true := by
  unfold fB_longestBorder at e
  exact (cond_some e).1
/-- LyndonBench.leastSuffix()I -/
theorem mfB_leastSuffix : z_me 121 zc_121 1 [] (some .int) := ⟨z_me0 rfl, rfl, rfl, rfl⟩
def fB_leastSuffix (N : Nat) (l0 : Nat) (h : zH) : Option (Int32 × zH) := cond (fT h l0 0) (b1 (fR h l0 0 0) fun x1 => b1 (fR h x1 3 1) fun x2 => b2 (fW_extremeEnding N x2 (Int32.ofInt (-1)) h) fun x3 h4 => some (x3, h4)) none
theorem sfB_leastSuffix {xs : List Int32} (N : Nat) (l0 : Nat) (h : zH) (r : Int32 × zH) (e : fB_leastSuffix N l0 h = some r) : zt xs (4) 121 0 [(0, .ref l0)] [] h 0 0 (zQ cI r) := by
  have hy := mfB_leastSuffix
  unfold fB_leastSuffix at e
  replace e := (cond_some e).2
  exact zl hy 1 (pc2 := 1) (lv2 := [(0, .ref l0)]) (st2 := [.ref l0]) rfl <| zx_gR hy rfl e fun x1 _ e => zx_gR hy rfl e fun x2 _ e => zl hy 1 (pc2 := 8) (lv2 := [(0, .ref l0)]) (st2 := [.int (Int32.ofInt (-1)), .ref x2]) rfl <| zx_call hy (as := [.ref x2, .int (Int32.ofInt (-1))]) (rest := []) (ov := (fun v => some (.int v))) (fun _ => rfl) rfl rfl (Or.inl rfl) rfl rfl (Nat.le_of_ble_eq_true rfl) (Nat.le_of_ble_eq_true rfl) (fun _ e _ => z_rcvT (rfW_extremeEnding N x2 (Int32.ofInt (-1)) h _ e)) (fun _ e => zt_deep (Nat.le_of_ble_eq_true rfl) (sfW_extremeEnding N x2 (Int32.ofInt (-1)) h _ e)) e fun x3 h4 _ e => zx_ret hy rfl rfl rfl rfl e
theorem rfB_leastSuffix (N : Nat) (l0 : Nat) (h : zH) (r : Int32 × zH) (e : fB_leastSuffix N l0 h = some r) : fT h l0 0 = true := by
  unfold fB_leastSuffix at e
  exact (cond_some e).1
/-- LyndonBench.greatestSuffix()I -/
theorem mfB_greatestSuffix : z_me 122 zc_122 1 [] (some .int) := ⟨z_me0 rfl, rfl, rfl, rfl⟩
def fB_greatestSuffix (N : Nat) (l0 : Nat) (h : zH) : Option (Int32 × zH) := cond (fT h l0 0) (b1 (fR h l0 0 0) fun x1 => b1 (fR h x1 3 1) fun x2 => b2 (fW_extremeEnding N x2 (Int32.ofInt 1) h) fun x3 h4 => some (x3, h4)) none
theorem sfB_greatestSuffix {xs : List Int32} (N : Nat) (l0 : Nat) (h : zH) (r : Int32 × zH) (e : fB_greatestSuffix N l0 h = some r) : zt xs (4) 122 0 [(0, .ref l0)] [] h 0 0 (zQ cI r) := by
  have hy := mfB_greatestSuffix
  unfold fB_greatestSuffix at e
  replace e := (cond_some e).2
  exact zl hy 1 (pc2 := 1) (lv2 := [(0, .ref l0)]) (st2 := [.ref l0]) rfl <| zx_gR hy rfl e fun x1 _ e => zx_gR hy rfl e fun x2 _ e => zl hy 1 (pc2 := 8) (lv2 := [(0, .ref l0)]) (st2 := [.int (Int32.ofInt 1), .ref x2]) rfl <| zx_call hy (as := [.ref x2, .int (Int32.ofInt 1)]) (rest := []) (ov := (fun v => some (.int v))) (fun _ => rfl) rfl rfl (Or.inl rfl) rfl rfl (Nat.le_of_ble_eq_true rfl) (Nat.le_of_ble_eq_true rfl) (fun _ e _ => z_rcvT (rfW_extremeEnding N x2 (Int32.ofInt 1) h _ e)) (fun _ e => zt_deep (Nat.le_of_ble_eq_true rfl) (sfW_extremeEnding N x2 (Int32.ofInt 1) h _ e)) e fun x3 h4 _ e => zx_ret hy rfl rfl rfl rfl e
theorem rfB_greatestSuffix (N : Nat) (l0 : Nat) (h : zH) (r : Int32 × zH) (e : fB_greatestSuffix N l0 h = some r) : fT h l0 0 = true := by
  unfold fB_greatestSuffix at e
  exact (cond_some e).1
/-- LyndonBench.checkCountedLength(I)V -/
theorem mfB_checkCountedLength : z_me 139 zc_139 2 [] none := ⟨z_me0 rfl, rfl, rfl, rfl⟩
def fB_checkCountedLength_11 (N : Nat)   (h : zH) : Option ((Unit ⊕ Nat) × zH) := some (Sum.inr 0, h)
theorem sfB_checkCountedLength_11 {xs : List Int32} (N : Nat)    (h : zH) (r : (Unit ⊕ Nat) × zH) (e : fB_checkCountedLength_11 N   h = some r) : zt xs (1) 139 11 [] [] h 0 0 (zQ (cX cV) r) := by
  have hy := mfB_checkCountedLength
  unfold fB_checkCountedLength_11 at e
  exact zx_thr hy rfl (Nat.le_of_ble_eq_true rfl) e
def fB_checkCountedLength (N : Nat) (l0 : Nat) (l1 : Int32) (h : zH) : Option ((Unit ⊕ Nat) × zH) := cond (fT h l0 0) (cond (z_cmp .lt l1 (Int32.ofInt 1)) (fB_checkCountedLength_11 N   h) (cond (z_cmp .le l1 (Int32.ofInt 18)) (some (Sum.inl (), h)) (fB_checkCountedLength_11 N   h))) none
theorem sfB_checkCountedLength {xs : List Int32} (N : Nat) (l0 : Nat) (l1 : Int32) (h : zH) (r : (Unit ⊕ Nat) × zH) (e : fB_checkCountedLength N l0 l1 h = some r) : zt xs (1) 139 0 [(0, .ref l0), (1, .int l1)] [] h 0 0 (zQ (cX cV) r) := by
  have hy := mfB_checkCountedLength
  unfold fB_checkCountedLength at e
  replace e := (cond_some e).2
  exact zl hy 2 (pc2 := 2) (lv2 := [(0, .ref l0), (1, .int l1)]) (st2 := [.int (Int32.ofInt 1), .int l1]) rfl <| zx_c hy rfl e (fun _ e => zt_sub (z_fn) <| sfB_checkCountedLength_11 N    h _ e) (fun _ e => zl hy 1 (pc2 := 6) (lv2 := [(0, .ref l0), (1, .int l1)]) (st2 := [.int l1]) rfl <| zx_bip hy (c := 18) rfl (by decide) <| zx_c hy rfl e (fun _ e => zx_retVX hy rfl rfl e) (fun _ e => zt_sub (z_fn) <| sfB_checkCountedLength_11 N    h _ e))
theorem rfB_checkCountedLength (N : Nat) (l0 : Nat) (l1 : Int32) (h : zH) (r : (Unit ⊕ Nat) × zH) (e : fB_checkCountedLength N l0 l1 h = some r) : fT h l0 0 = true := by
  unfold fB_checkCountedLength at e
  exact (cond_some e).1
/-- LyndonBench.power(II)J -/
theorem mfB_power : z_me 143 zc_143 5 [] (some .long) := ⟨z_me0 rfl, rfl, rfl, rfl⟩
def fB_power_5 (N : Nat) : Nat → Int32 → Int32 → Int64 → Int32 → zH → Option (Int64 × zH)
  | 0, _, _, _, _, _ => none
  | n + 1, l0, l1, l2, l4, h => cond (z_cmp .ge l4 l1) (some (l2, h)) (fB_power_5 N n  l0 l1 (l2 * (l0).toInt64) (l4 + Int32.ofInt 1) h)
theorem sfB_power_5 {xs : List Int32} (N : Nat)   : ∀ (n : Nat) (l0 : Int32) (l1 : Int32) (l2 : Int64) (l4 : Int32) (h : zH) (r : Int64 × zH), fB_power_5 N n  l0 l1 l2 l4 h = some r → zt xs (1) 143 5 [(0, .int l0), (1, .int l1), (2, .long l2), (4, .int l4)] [] h 0 0 (zQ cL r) := by
  have hy := mfB_power
  intro n
  induction n with
  | zero =>
    intro l0 l1 l2 l4 h r e
    rw [fB_power_5] at e
    cases e
  | succ n ih =>
    intro l0 l1 l2 l4 h r e
    rw [fB_power_5] at e
    exact zl hy 2 (pc2 := 8) (lv2 := [(0, .int l0), (1, .int l1), (2, .long l2), (4, .int l4)]) (st2 := [.int l1, .int l4]) rfl <| zx_c hy rfl e (fun _ e => zl hy 1 (pc2 := 23) (lv2 := [(0, .int l0), (1, .int l1), (2, .long l2), (4, .int l4)]) (st2 := [.long l2]) rfl <| zx_ret hy rfl rfl rfl rfl e) (fun _ e => zl hy 7 (pc2 := 5) (lv2 := [(4, .int (l4 + Int32.ofInt 1)), (2, .long (l2 * (l0).toInt64)), (0, .int l0), (1, .int l1)]) (st2 := []) rfl <| zt_sub (z_fc rfl (z_fc rfl (z_fc rfl (z_fc rfl (z_fn))))) <| ih l0 l1 (l2 * (l0).toInt64) (l4 + Int32.ofInt 1) h _ e)
def fB_power (N : Nat) (l0 : Int32) (l1 : Int32) (h : zH) : Option (Int64 × zH) := fB_power_5 N N  l0 l1 (Int64.ofNat 1) (Int32.ofInt 0) h
theorem sfB_power {xs : List Int32} (N : Nat) (l0 : Int32) (l1 : Int32) (h : zH) (r : Int64 × zH) (e : fB_power N l0 l1 h = some r) : zt xs (1) 143 0 [(0, .int l0), (1, .int l1)] [] h 0 0 (zQ cL r) := by
  have hy := mfB_power
  unfold fB_power at e
  exact zl hy 4 (pc2 := 5) (lv2 := [(4, .int (Int32.ofInt 0)), (2, .long (Int64.ofNat 1)), (0, .int l0), (1, .int l1)]) (st2 := []) rfl <| zt_sub (z_fc rfl (z_fc rfl (z_fc rfl (z_fc rfl (z_fn))))) <| sfB_power_5 N   N l0 l1 (Int64.ofNat 1) (Int32.ofInt 0) h _ e
/-- LyndonBench.weighPowers(II[I)J -/
theorem mfB_weighPowers : z_me 142 zc_142 6 [] (some .long) := ⟨z_me0 rfl, rfl, rfl, rfl⟩
def fB_weighPowers_55 (N : Nat)  (l1 : Int32) (l3 : Int64) (h : zH) : Option (Int64 × zH) := (if (l1).toInt64 = Int64.ofInt 0 then none else some ((l3 / (l1).toInt64), h))
theorem sfB_weighPowers_55 {xs : List Int32} (N : Nat)   (l1 : Int32) (l3 : Int64) (h : zH) (r : Int64 × zH) (e : fB_weighPowers_55 N  l1 l3 h = some r) : zt xs (2) 142 55 [(1, .int l1), (3, .long l3)] [] h 0 0 (zQ cL r) := by
  have hy := mfB_weighPowers
  unfold fB_weighPowers_55 at e
  exact zl hy 3 (pc2 := 58) (lv2 := [(1, .int l1), (3, .long l3)]) (st2 := [.long (l1).toInt64, .long l3]) rfl <| zx_ldv hy (G := fun _ => some ((l3 / (l1).toInt64), h)) rfl e fun _ e => zx_ret hy rfl rfl rfl rfl e
def fB_weighPowers_49 (N : Nat) (k12 : Int32 → Int32 → Nat → Int64 → Int32 → zH → Option (Int64 × zH)) (l0 : Int32) (l1 : Int32) (l2 : Nat) (l3 : Int64) (l5 : Int32) (h : zH) : Option (Int64 × zH) := k12 l0 l1 l2 l3 (l5 + Int32.ofInt 1) h
theorem sfB_weighPowers_49 {xs : List Int32} (N : Nat) (k12 : Int32 → Int32 → Nat → Int64 → Int32 → zH → Option (Int64 × zH))  (hk12 : ∀ (l0 : Int32) (l1 : Int32) (l2 : Nat) (l3 : Int64) (l5 : Int32) (h : zH) (r : Int64 × zH), k12 l0 l1 l2 l3 l5 h = some r → zt xs (2) 142 12 [(0, .int l0), (1, .int l1), (2, .ref l2), (3, .long l3), (5, .int l5)] [] h 0 0 (zQ cL r)) (l0 : Int32) (l1 : Int32) (l2 : Nat) (l3 : Int64) (l5 : Int32) (h : zH) (r : Int64 × zH) (e : fB_weighPowers_49 N k12 l0 l1 l2 l3 l5 h = some r) : zt xs (2) 142 49 [(0, .int l0), (1, .int l1), (2, .ref l2), (3, .long l3), (5, .int l5)] [] h 0 0 (zQ cL r) := by
  have hy := mfB_weighPowers
  unfold fB_weighPowers_49 at e
  exact zl hy 2 (pc2 := 12) (lv2 := [(5, .int (l5 + Int32.ofInt 1)), (0, .int l0), (1, .int l1), (2, .ref l2), (3, .long l3)]) (st2 := []) rfl <| zt_sub (z_fc rfl (z_fc rfl (z_fc rfl (z_fc rfl (z_fc rfl (z_fn)))))) <| hk12 l0 l1 l2 l3 (l5 + Int32.ofInt 1) h _ e
def fB_weighPowers_12 (N : Nat) : Nat → Int32 → Int32 → Nat → Int64 → Int32 → zH → Option (Int64 × zH)
  | 0, _, _, _, _, _, _ => none
  | n + 1, l0, l1, l2, l3, l5, h => cond (z_cmp .gt l5 l1) (fB_weighPowers_55 N  l1 l3 h) (b1 (fN h l2 100) fun x1 => cond (z_cmp .ge l5 x1) (fB_weighPowers_55 N  l1 l3 h) ((if l5 = Int32.ofInt 0 then none else cond (z_cmp .ne (l1 - l1 / l5 * l5) (Int32.ofInt 0)) (fB_weighPowers_49 N (fB_weighPowers_12 N n ) l0 l1 l2 l3 l5 h) (b1 (fAI h l2 100 l5) fun x3 => (if l5 = Int32.ofInt 0 then none else b2 (fB_power N l0 (l1 / l5) h) fun x5 h6 => fB_weighPowers_49 N (fB_weighPowers_12 N n ) l0 l1 l2 (l3 + ((x3).toInt64 * x5)) l5 h6)))))
theorem sfB_weighPowers_12 {xs : List Int32} (N : Nat)   : ∀ (n : Nat) (l0 : Int32) (l1 : Int32) (l2 : Nat) (l3 : Int64) (l5 : Int32) (h : zH) (r : Int64 × zH), fB_weighPowers_12 N n  l0 l1 l2 l3 l5 h = some r → zt xs (2) 142 12 [(0, .int l0), (1, .int l1), (2, .ref l2), (3, .long l3), (5, .int l5)] [] h 0 0 (zQ cL r) := by
  have hy := mfB_weighPowers
  intro n
  induction n with
  | zero =>
    intro l0 l1 l2 l3 l5 h r e
    rw [fB_weighPowers_12] at e
    cases e
  | succ n ih =>
    intro l0 l1 l2 l3 l5 h r e
    rw [fB_weighPowers_12] at e
    exact zl hy 2 (pc2 := 15) (lv2 := [(0, .int l0), (1, .int l1), (2, .ref l2), (3, .long l3), (5, .int l5)]) (st2 := [.int l1, .int l5]) rfl <| zx_c hy rfl e (fun _ e => zt_sub (z_fc rfl (z_fc rfl (z_fn))) <| sfB_weighPowers_55 N   l1 l3 h _ e) (fun _ e => zl hy 2 (pc2 := 21) (lv2 := [(0, .int l0), (1, .int l1), (2, .ref l2), (3, .long l3), (5, .int l5)]) (st2 := [.ref l2, .int l5]) rfl <| zx_len hy (Nat.le_of_ble_eq_true rfl) rfl e fun x1 _ e => zx_c hy rfl e (fun _ e => zt_sub (z_fc rfl (z_fc rfl (z_fn))) <| sfB_weighPowers_55 N   l1 l3 h _ e) (fun _ e => zl hy 2 (pc2 := 28) (lv2 := [(0, .int l0), (1, .int l1), (2, .ref l2), (3, .long l3), (5, .int l5)]) (st2 := [.int l5, .int l1]) rfl <| zx_rem hy (G := fun _ => cond (z_cmp .ne (l1 - l1 / l5 * l5) (Int32.ofInt 0)) (fB_weighPowers_49 N (fB_weighPowers_12 N n ) l0 l1 l2 l3 l5 h) (b1 (fAI h l2 100 l5) fun x3 => (if l5 = Int32.ofInt 0 then none else b2 (fB_power N l0 (l1 / l5) h) fun x5 h6 => fB_weighPowers_49 N (fB_weighPowers_12 N n ) l0 l1 l2 (l3 + ((x3).toInt64 * x5)) l5 h6))) rfl e fun _ e => zx_c0 hy rfl e (fun _ e => zt_sub (z_fc rfl (z_fc rfl (z_fc rfl (z_fc rfl (z_fc rfl (z_fn)))))) <| sfB_weighPowers_49 N (fB_weighPowers_12 N n ) ih l0 l1 l2 l3 l5 h _ e) (fun _ e => zl hy 3 (pc2 := 36) (lv2 := [(0, .int l0), (1, .int l1), (2, .ref l2), (3, .long l3), (5, .int l5)]) (st2 := [.int l5, .ref l2, .long l3]) rfl <| zx_aI hy (j := .iaload) (Or.inl ⟨rfl, rfl⟩) rfl e fun x3 _ e => zl hy 4 (pc2 := 42) (lv2 := [(0, .int l0), (1, .int l1), (2, .ref l2), (3, .long l3), (5, .int l5)]) (st2 := [.int l5, .int l1, .int l0, .long (x3).toInt64, .long l3]) rfl <| zx_div hy (G := fun _ => b2 (fB_power N l0 (l1 / l5) h) fun x5 h6 => fB_weighPowers_49 N (fB_weighPowers_12 N n ) l0 l1 l2 (l3 + ((x3).toInt64 * x5)) l5 h6) rfl e fun _ e => zx_call hy (as := [.int l0, .int (l1 / l5)]) (rest := [.long (x3).toInt64, .long l3]) (ov := (fun v => some (.long v))) (fun _ => rfl) rfl rfl (Or.inr (Or.inl rfl)) rfl rfl (Nat.le_of_ble_eq_true rfl) (Nat.le_of_ble_eq_true rfl) (fun _ _ hz => absurd rfl hz) (fun _ e => zt_deep (Nat.le_of_ble_eq_true rfl) (sfB_power N l0 (l1 / l5) h _ e)) e fun x5 h6 _ e => zl hy 3 (pc2 := 49) (lv2 := [(3, .long (l3 + ((x3).toInt64 * x5))), (0, .int l0), (1, .int l1), (2, .ref l2), (5, .int l5)]) (st2 := []) rfl <| zt_sub (z_fc rfl (z_fc rfl (z_fc rfl (z_fc rfl (z_fc rfl (z_fn)))))) <| sfB_weighPowers_49 N (fB_weighPowers_12 N n ) ih l0 l1 l2 (l3 + ((x3).toInt64 * x5)) l5 h6 _ e)))
def fB_weighPowers (N : Nat) (l0 : Int32) (l1 : Int32) (l2 : Nat) (h : zH) : Option (Int64 × zH) := cond (z_cmp .ge l1 (Int32.ofInt 1)) (fB_weighPowers_12 N N  l0 l1 l2 (Int64.ofNat 0) (Int32.ofInt 1) h) (some ((Int64.ofNat 0), h))
theorem sfB_weighPowers {xs : List Int32} (N : Nat) (l0 : Int32) (l1 : Int32) (l2 : Nat) (h : zH) (r : Int64 × zH) (e : fB_weighPowers N l0 l1 l2 h = some r) : zt xs (2) 142 0 [(0, .int l0), (1, .int l1), (2, .ref l2)] [] h 0 0 (zQ cL r) := by
  have hy := mfB_weighPowers
  unfold fB_weighPowers at e
  exact zl hy 2 (pc2 := 2) (lv2 := [(0, .int l0), (1, .int l1), (2, .ref l2)]) (st2 := [.int (Int32.ofInt 1), .int l1]) rfl <| zx_c hy rfl e (fun _ e => zl hy 4 (pc2 := 12) (lv2 := [(5, .int (Int32.ofInt 1)), (3, .long (Int64.ofNat 0)), (0, .int l0), (1, .int l1), (2, .ref l2)]) (st2 := []) rfl <| zt_sub (z_fc rfl (z_fc rfl (z_fc rfl (z_fc rfl (z_fc rfl (z_fn)))))) <| sfB_weighPowers_12 N   N l0 l1 l2 (Int64.ofNat 0) (Int32.ofInt 1) h _ e) (fun _ e => zl hy 1 (pc2 := 6) (lv2 := [(0, .int l0), (1, .int l1), (2, .ref l2)]) (st2 := [.long (Int64.ofNat 0)]) rfl <| zx_ret hy rfl rfl rfl rfl e)
/-- LyndonBench.lyndonWords(I)J -/
theorem mfB_lyndonWords : z_me 123 zc_123 2 [] (some .long) := ⟨z_me0 rfl, rfl, rfl, rfl⟩
def fB_lyndonWords (N : Nat) (l0 : Nat) (l1 : Int32) (h : zH) : Option ((Int64 ⊕ Nat) × zH) := cond (fT h l0 0) (bX (fB_checkCountedLength N l0 l1 h) fun _ h2 => b1 (fR h2 l0 0 0) fun x3 => b1 (fI h2 x3 3 0) fun x4 => b2 (fB_weighPowers N x4 l1 1000013 h2) fun x5 h6 => some (Sum.inl x5, h6)) none
theorem sfB_lyndonWords {xs : List Int32} (N : Nat) (l0 : Nat) (l1 : Int32) (h : zH) (r : (Int64 ⊕ Nat) × zH) (e : fB_lyndonWords N l0 l1 h = some r) : zt xs (3) 123 0 [(0, .ref l0), (1, .int l1)] [] h 0 0 (zQ (cX cL) r) := by
  have hy := mfB_lyndonWords
  unfold fB_lyndonWords at e
  replace e := (cond_some e).2
  exact zl hy 2 (pc2 := 2) (lv2 := [(0, .ref l0), (1, .int l1)]) (st2 := [.int l1, .ref l0]) rfl <| zx_callX hy (as := [.ref l0, .int l1]) (rest := []) (ov := (fun _ => none)) (fun _ => rfl) rfl rfl (Or.inl rfl) rfl rfl (Nat.le_of_ble_eq_true rfl) (Nat.le_of_ble_eq_true rfl) (fun _ e _ => z_rcvT (rfB_checkCountedLength N l0 l1 h _ e)) (fun _ e => zt_deep (Nat.le_of_ble_eq_true rfl) (sfB_checkCountedLength N l0 l1 h _ e)) e fun _ h2 _ e => zl hy 1 (pc2 := 6) (lv2 := [(0, .ref l0), (1, .int l1)]) (st2 := [.ref l0]) rfl <| zx_gR hy rfl e fun x3 _ e => zx_gI hy rfl e fun x4 _ e => zl hy 1 (pc2 := 13) (lv2 := [(0, .ref l0), (1, .int l1)]) (st2 := [.int l1, .int x4]) rfl <| zx_gs hy (v := .ref 1000013) rfl rfl rfl <| zx_call hy (as := [.int x4, .int l1, .ref 1000013]) (rest := []) (ov := (fun v => some (.long v))) (fun _ => rfl) rfl rfl (Or.inr (Or.inl rfl)) rfl rfl (Nat.le_of_ble_eq_true rfl) (Nat.le_of_ble_eq_true rfl) (fun _ _ hz => absurd rfl hz) (fun _ e => zt_deep (Nat.le_of_ble_eq_true rfl) (sfB_weighPowers N x4 l1 1000013 h2 _ e)) e fun x5 h6 _ e => zx_ret hy rfl rfl rfl rfl e
theorem rfB_lyndonWords (N : Nat) (l0 : Nat) (l1 : Int32) (h : zH) (r : (Int64 ⊕ Nat) × zH) (e : fB_lyndonWords N l0 l1 h = some r) : fT h l0 0 = true := by
  unfold fB_lyndonWords at e
  exact (cond_some e).1
/-- LyndonBench.necklaces(I)J -/
theorem mfB_necklaces : z_me 124 zc_124 2 [] (some .long) := ⟨z_me0 rfl, rfl, rfl, rfl⟩
def fB_necklaces (N : Nat) (l0 : Nat) (l1 : Int32) (h : zH) : Option ((Int64 ⊕ Nat) × zH) := cond (fT h l0 0) (bX (fB_checkCountedLength N l0 l1 h) fun _ h2 => b1 (fR h2 l0 0 0) fun x3 => b1 (fI h2 x3 3 0) fun x4 => b2 (fB_weighPowers N x4 l1 1000014 h2) fun x5 h6 => some (Sum.inl x5, h6)) none
theorem sfB_necklaces {xs : List Int32} (N : Nat) (l0 : Nat) (l1 : Int32) (h : zH) (r : (Int64 ⊕ Nat) × zH) (e : fB_necklaces N l0 l1 h = some r) : zt xs (3) 124 0 [(0, .ref l0), (1, .int l1)] [] h 0 0 (zQ (cX cL) r) := by
  have hy := mfB_necklaces
  unfold fB_necklaces at e
  replace e := (cond_some e).2
  exact zl hy 2 (pc2 := 2) (lv2 := [(0, .ref l0), (1, .int l1)]) (st2 := [.int l1, .ref l0]) rfl <| zx_callX hy (as := [.ref l0, .int l1]) (rest := []) (ov := (fun _ => none)) (fun _ => rfl) rfl rfl (Or.inl rfl) rfl rfl (Nat.le_of_ble_eq_true rfl) (Nat.le_of_ble_eq_true rfl) (fun _ e _ => z_rcvT (rfB_checkCountedLength N l0 l1 h _ e)) (fun _ e => zt_deep (Nat.le_of_ble_eq_true rfl) (sfB_checkCountedLength N l0 l1 h _ e)) e fun _ h2 _ e => zl hy 1 (pc2 := 6) (lv2 := [(0, .ref l0), (1, .int l1)]) (st2 := [.ref l0]) rfl <| zx_gR hy rfl e fun x3 _ e => zx_gI hy rfl e fun x4 _ e => zl hy 1 (pc2 := 13) (lv2 := [(0, .ref l0), (1, .int l1)]) (st2 := [.int l1, .int x4]) rfl <| zx_gs hy (v := .ref 1000014) rfl rfl rfl <| zx_call hy (as := [.int x4, .int l1, .ref 1000014]) (rest := []) (ov := (fun v => some (.long v))) (fun _ => rfl) rfl rfl (Or.inr (Or.inl rfl)) rfl rfl (Nat.le_of_ble_eq_true rfl) (Nat.le_of_ble_eq_true rfl) (fun _ _ hz => absurd rfl hz) (fun _ e => zt_deep (Nat.le_of_ble_eq_true rfl) (sfB_weighPowers N x4 l1 1000014 h2 _ e)) e fun x5 h6 _ e => zx_ret hy rfl rfl rfl rfl e
theorem rfB_necklaces (N : Nat) (l0 : Nat) (l1 : Int32) (h : zH) (r : (Int64 ⊕ Nat) × zH) (e : fB_necklaces N l0 l1 h = some r) : fT h l0 0 = true := by
  unfold fB_necklaces at e
  exact (cond_some e).1
/-- LyndonBench.findRowLetter(II)I -/
theorem mfB_findRowLetter : z_me 146 zc_146 5 [] (some .int) := ⟨z_me0 rfl, rfl, rfl, rfl⟩
def fB_findRowLetter_96 (N : Nat)   (h : zH) : Option (Int32 × zH) := some ((Int32.ofInt (-1)), h)
theorem sfB_findRowLetter_96 {xs : List Int32} (N : Nat)    (h : zH) (r : Int32 × zH) (e : fB_findRowLetter_96 N   h = some r) : zt xs (3) 146 96 [] [] h 0 0 (zQ cI r) := by
  have hy := mfB_findRowLetter
  unfold fB_findRowLetter_96 at e
  exact zl hy 1 (pc2 := 97) (lv2 := []) (st2 := [.int (Int32.ofInt (-1))]) rfl <| zx_ret hy rfl rfl rfl rfl e
def fB_findRowLetter_75 (N : Nat) (k9 : Nat → Int32 → Int32 → Int32 → Int32 → zH → Option (Int32 × zH)) (l0 : Nat) (l1 : Int32) (l2 : Int32) (l3 : Int32) (l4 : Int32) (h : zH) : Option (Int32 × zH) := b1 (fR h l0 0 6) fun x8 => b1 (fR h l0 0 0) fun x9 => b2 (fS_greatestLetter N x9 h) fun x10 h11 => b2 (fW_stepLyndon N x8 l1 x10 h11) fun _ h13 => k9 l0 l1 l2 l3 (l4 + Int32.ofInt 1) h13
theorem sfB_findRowLetter_75 {xs : List Int32} (N : Nat) (k9 : Nat → Int32 → Int32 → Int32 → Int32 → zH → Option (Int32 × zH))  (hk9 : ∀ (l0 : Nat) (l1 : Int32) (l2 : Int32) (l3 : Int32) (l4 : Int32) (h : zH) (r : Int32 × zH), k9 l0 l1 l2 l3 l4 h = some r → zt xs (3) 146 9 [(0, .ref l0), (1, .int l1), (2, .int l2), (3, .int l3), (4, .int l4)] [] h 0 0 (zQ cI r)) (l0 : Nat) (l1 : Int32) (l2 : Int32) (l3 : Int32) (l4 : Int32) (h : zH) (r : Int32 × zH) (e : fB_findRowLetter_75 N k9 l0 l1 l2 l3 l4 h = some r) : zt xs (3) 146 75 [(0, .ref l0), (1, .int l1), (2, .int l2), (3, .int l3), (4, .int l4)] [] h 0 0 (zQ cI r) := by
  have hy := mfB_findRowLetter
  unfold fB_findRowLetter_75 at e
  exact zl hy 1 (pc2 := 76) (lv2 := [(0, .ref l0), (1, .int l1), (2, .int l2), (3, .int l3), (4, .int l4)]) (st2 := [.ref l0]) rfl <| zx_gR hy rfl e fun x8 _ e => zl hy 2 (pc2 := 81) (lv2 := [(0, .ref l0), (1, .int l1), (2, .int l2), (3, .int l3), (4, .int l4)]) (st2 := [.ref l0, .int l1, .ref x8]) rfl <| zx_gR hy rfl e fun x9 _ e => zx_call hy (as := [.ref x9]) (rest := [.int l1, .ref x8]) (ov := (fun v => some (.int v))) (fun _ => rfl) rfl rfl (Or.inl rfl) rfl rfl (Nat.le_of_ble_eq_true rfl) (Nat.le_of_ble_eq_true rfl) (fun _ e _ => z_rcvT (rfS_greatestLetter N x9 h _ e)) (fun _ e => zt_deep (Nat.le_of_ble_eq_true rfl) (sfS_greatestLetter N x9 h _ e)) e fun x10 h11 _ e => zx_call hy (as := [.ref x8, .int l1, .int x10]) (rest := []) (ov := (fun _ => none)) (fun _ => rfl) rfl rfl (Or.inl rfl) rfl rfl (Nat.le_of_ble_eq_true rfl) (Nat.le_of_ble_eq_true rfl) (fun _ e _ => z_rcvT (rfW_stepLyndon N x8 l1 x10 h11 _ e)) (fun _ e => zt_deep (Nat.le_of_ble_eq_true rfl) (sfW_stepLyndon N x8 l1 x10 h11 _ e)) e fun _ h13 _ e => zl hy 2 (pc2 := 9) (lv2 := [(4, .int (l4 + Int32.ofInt 1)), (0, .ref l0), (1, .int l1), (2, .int l2), (3, .int l3)]) (st2 := []) rfl <| zt_sub (z_fc rfl (z_fc rfl (z_fc rfl (z_fc rfl (z_fc rfl (z_fn)))))) <| hk9 l0 l1 l2 l3 (l4 + Int32.ofInt 1) h13 _ e
def fB_findRowLetter_9 (N : Nat) : Nat → Nat → Int32 → Int32 → Int32 → Int32 → zH → Option (Int32 × zH)
  | 0, _, _, _, _, _, _ => none
  | n + 1, l0, l1, l2, l3, l4, h => cond (z_cmp .ge l4 (l1 * (Int32.ofInt 4096))) (fB_findRowLetter_96 N   h) (b1 (fR h l0 0 6) fun x3 => b1 (fI h x3 4 1) fun x4 => cond (z_cmp .le x4 (Int32.ofInt 0)) (fB_findRowLetter_96 N   h) (b1 (fR h l0 0 6) fun x5 => b1 (fI h x5 4 1) fun x6 => (if x6 = Int32.ofInt 0 then none else cond (z_cmp .ne (l1 - l1 / x6 * x6) (Int32.ofInt 0)) (fB_findRowLetter_75 N (fB_findRowLetter_9 N n ) l0 l1 l2 l3 l4 h) (b1 (fR h l0 0 6) fun x8 => b1 (fI h x8 4 1) fun x9 => cond (z_cmp .ge l2 (l3 + x9)) (b1 (fR h l0 0 6) fun x10 => b1 (fI h x10 4 1) fun x11 => fB_findRowLetter_75 N (fB_findRowLetter_9 N n ) l0 l1 l2 (l3 + x11) l4 h) (b1 (fR h l0 0 6) fun x12 => b2 (fW_at N x12 (l2 - l3) h) fun x13 h14 => some (x13, h14))))))
theorem sfB_findRowLetter_9 {xs : List Int32} (N : Nat)   : ∀ (n : Nat) (l0 : Nat) (l1 : Int32) (l2 : Int32) (l3 : Int32) (l4 : Int32) (h : zH) (r : Int32 × zH), fB_findRowLetter_9 N n  l0 l1 l2 l3 l4 h = some r → zt xs (3) 146 9 [(0, .ref l0), (1, .int l1), (2, .int l2), (3, .int l3), (4, .int l4)] [] h 0 0 (zQ cI r) := by
  have hy := mfB_findRowLetter
  intro n
  induction n with
  | zero =>
    intro l0 l1 l2 l3 l4 h r e
    rw [fB_findRowLetter_9] at e
    cases e
  | succ n ih =>
    intro l0 l1 l2 l3 l4 h r e
    rw [fB_findRowLetter_9] at e
    exact zl hy 2 (pc2 := 12) (lv2 := [(0, .ref l0), (1, .int l1), (2, .int l2), (3, .int l3), (4, .int l4)]) (st2 := [.int l1, .int l4]) rfl <| zx_sip hy (c := 4096) rfl (by decide) <| zl hy 1 (pc2 := 16) (lv2 := [(0, .ref l0), (1, .int l1), (2, .int l2), (3, .int l3), (4, .int l4)]) (st2 := [.int (l1 * (Int32.ofInt 4096)), .int l4]) rfl <| zx_c hy rfl e (fun _ e => zt_sub (z_fn) <| sfB_findRowLetter_96 N    h _ e) (fun _ e => zl hy 1 (pc2 := 20) (lv2 := [(0, .ref l0), (1, .int l1), (2, .int l2), (3, .int l3), (4, .int l4)]) (st2 := [.ref l0]) rfl <| zx_gR hy rfl e fun x3 _ e => zx_gI hy rfl e fun x4 _ e => zx_c0 hy rfl e (fun _ e => zt_sub (z_fn) <| sfB_findRowLetter_96 N    h _ e) (fun _ e => zl hy 2 (pc2 := 31) (lv2 := [(0, .ref l0), (1, .int l1), (2, .int l2), (3, .int l3), (4, .int l4)]) (st2 := [.ref l0, .int l1]) rfl <| zx_gR hy rfl e fun x5 _ e => zx_gI hy rfl e fun x6 _ e => zx_rem hy (G := fun _ => cond (z_cmp .ne (l1 - l1 / x6 * x6) (Int32.ofInt 0)) (fB_findRowLetter_75 N (fB_findRowLetter_9 N n ) l0 l1 l2 l3 l4 h) (b1 (fR h l0 0 6) fun x8 => b1 (fI h x8 4 1) fun x9 => cond (z_cmp .ge l2 (l3 + x9)) (b1 (fR h l0 0 6) fun x10 => b1 (fI h x10 4 1) fun x11 => fB_findRowLetter_75 N (fB_findRowLetter_9 N n ) l0 l1 l2 (l3 + x11) l4 h) (b1 (fR h l0 0 6) fun x12 => b2 (fW_at N x12 (l2 - l3) h) fun x13 h14 => some (x13, h14)))) rfl e fun _ e => zx_c0 hy rfl e (fun _ e => zt_sub (z_fc rfl (z_fc rfl (z_fc rfl (z_fc rfl (z_fc rfl (z_fn)))))) <| sfB_findRowLetter_75 N (fB_findRowLetter_9 N n ) ih l0 l1 l2 l3 l4 h _ e) (fun _ e => zl hy 3 (pc2 := 44) (lv2 := [(0, .ref l0), (1, .int l1), (2, .int l2), (3, .int l3), (4, .int l4)]) (st2 := [.ref l0, .int l3, .int l2]) rfl <| zx_gR hy rfl e fun x8 _ e => zx_gI hy rfl e fun x9 _ e => zl hy 1 (pc2 := 51) (lv2 := [(0, .ref l0), (1, .int l1), (2, .int l2), (3, .int l3), (4, .int l4)]) (st2 := [.int (l3 + x9), .int l2]) rfl <| zx_c hy rfl e (fun _ e => zl hy 2 (pc2 := 67) (lv2 := [(0, .ref l0), (1, .int l1), (2, .int l2), (3, .int l3), (4, .int l4)]) (st2 := [.ref l0, .int l3]) rfl <| zx_gR hy rfl e fun x10 _ e => zx_gI hy rfl e fun x11 _ e => zl hy 2 (pc2 := 75) (lv2 := [(3, .int (l3 + x11)), (0, .ref l0), (1, .int l1), (2, .int l2), (4, .int l4)]) (st2 := []) rfl <| zt_sub (z_fc rfl (z_fc rfl (z_fc rfl (z_fc rfl (z_fc rfl (z_fn)))))) <| sfB_findRowLetter_75 N (fB_findRowLetter_9 N n ) ih l0 l1 l2 (l3 + x11) l4 h _ e) (fun _ e => zl hy 1 (pc2 := 55) (lv2 := [(0, .ref l0), (1, .int l1), (2, .int l2), (3, .int l3), (4, .int l4)]) (st2 := [.ref l0]) rfl <| zx_gR hy rfl e fun x12 _ e => zl hy 3 (pc2 := 61) (lv2 := [(0, .ref l0), (1, .int l1), (2, .int l2), (3, .int l3), (4, .int l4)]) (st2 := [.int (l2 - l3), .ref x12]) rfl <| zx_call hy (as := [.ref x12, .int (l2 - l3)]) (rest := []) (ov := (fun v => some (.int v))) (fun _ => rfl) rfl rfl (Or.inl rfl) rfl rfl (Nat.le_of_ble_eq_true rfl) (Nat.le_of_ble_eq_true rfl) (fun _ e _ => z_rcvT (rfW_at N x12 (l2 - l3) h _ e)) (fun _ e => zt_deep (Nat.le_of_ble_eq_true rfl) (sfW_at N x12 (l2 - l3) h _ e)) e fun x13 h14 _ e => zx_ret hy rfl rfl rfl rfl e))))
def fB_findRowLetter (N : Nat) (l0 : Nat) (l1 : Int32) (l2 : Int32) (h : zH) : Option (Int32 × zH) := cond (fT h l0 0) (b2 (fB_startListing N l0 h) fun _ h2 => fB_findRowLetter_9 N N  l0 l1 l2 (Int32.ofInt 0) (Int32.ofInt 0) h2) none
theorem sfB_findRowLetter {xs : List Int32} (N : Nat) (l0 : Nat) (l1 : Int32) (l2 : Int32) (h : zH) (r : Int32 × zH) (e : fB_findRowLetter N l0 l1 l2 h = some r) : zt xs (3) 146 0 [(0, .ref l0), (1, .int l1), (2, .int l2)] [] h 0 0 (zQ cI r) := by
  have hy := mfB_findRowLetter
  unfold fB_findRowLetter at e
  replace e := (cond_some e).2
  exact zl hy 3 (pc2 := 3) (lv2 := [(3, .int (Int32.ofInt 0)), (0, .ref l0), (1, .int l1), (2, .int l2)]) (st2 := [.ref l0]) rfl <| zx_call hy (as := [.ref l0]) (rest := []) (ov := (fun _ => none)) (fun _ => rfl) rfl rfl (Or.inl rfl) rfl rfl (Nat.le_of_ble_eq_true rfl) (Nat.le_of_ble_eq_true rfl) (fun _ e _ => z_rcvT (rfB_startListing N l0 h _ e)) (fun _ e => zt_deep (Nat.le_of_ble_eq_true rfl) (sfB_startListing N l0 h _ e)) e fun _ h2 _ e => zl hy 2 (pc2 := 9) (lv2 := [(4, .int (Int32.ofInt 0)), (3, .int (Int32.ofInt 0)), (0, .ref l0), (1, .int l1), (2, .int l2)]) (st2 := []) rfl <| zt_sub (z_fc rfl (z_fc rfl (z_fc rfl (z_fc rfl (z_fc rfl (z_fn)))))) <| sfB_findRowLetter_9 N   N l0 l1 l2 (Int32.ofInt 0) (Int32.ofInt 0) h2 _ e
theorem rfB_findRowLetter (N : Nat) (l0 : Nat) (l1 : Int32) (l2 : Int32) (h : zH) (r : Int32 × zH) (e : fB_findRowLetter N l0 l1 l2 h = some r) : fT h l0 0 = true := by
  unfold fB_findRowLetter at e
  exact (cond_some e).1
/-- LyndonBench.bruijnLetter(II)I -/
theorem mfB_bruijnLetter : z_me 125 zc_125 4 [] (some .int) := ⟨z_me0 rfl, rfl, rfl, rfl⟩
def fB_bruijnLetter_25 (N : Nat)   (h : zH) : Option ((Int32 ⊕ Nat) × zH) := some (Sum.inr 0, h)
theorem sfB_bruijnLetter_25 {xs : List Int32} (N : Nat)    (h : zH) (r : (Int32 ⊕ Nat) × zH) (e : fB_bruijnLetter_25 N   h = some r) : zt xs (4) 125 25 [] [] h 0 0 (zQ (cX cI) r) := by
  have hy := mfB_bruijnLetter
  unfold fB_bruijnLetter_25 at e
  exact zx_thr hy rfl (Nat.le_of_ble_eq_true rfl) e
def fB_bruijnLetter_50 (N : Nat)  (s0 : Int32) (h : zH) : Option ((Int32 ⊕ Nat) × zH) := cond (z_cmp .ne s0 (Int32.ofInt (-1))) (some (Sum.inl s0, h)) (some (Sum.inr 2, h))
theorem sfB_bruijnLetter_50 {xs : List Int32} (N : Nat)   (s0 : Int32) (h : zH) (r : (Int32 ⊕ Nat) × zH) (e : fB_bruijnLetter_50 N  s0 h = some r) : zt xs (4) 125 50 [] [.int s0] h 0 0 (zQ (cX cI) r) := by
  have hy := mfB_bruijnLetter
  unfold fB_bruijnLetter_50 at e
  exact zl hy 3 (pc2 := 53) (lv2 := [(3, .int s0)]) (st2 := [.int (Int32.ofInt (-1)), .int s0]) rfl <| zx_c hy rfl e (fun _ e => zl hy 1 (pc2 := 68) (lv2 := [(3, .int s0)]) (st2 := [.int s0]) rfl <| zx_ret hy rfl rfl rfl rfl e) (fun _ e => zx_thr hy rfl (Nat.le_of_ble_eq_true rfl) e)
def fB_bruijnLetter (N : Nat) (l0 : Nat) (l1 : Int32) (l2 : Int32) (h : zH) : Option ((Int32 ⊕ Nat) × zH) := cond (fT h l0 0) (cond (z_cmp .lt l1 (Int32.ofInt 1)) (fB_bruijnLetter_25 N   h) (cond (z_cmp .gt l1 (Int32.ofInt 12)) (fB_bruijnLetter_25 N   h) (b1 (fR h l0 0 0) fun x1 => b1 (fI h x1 3 0) fun x2 => b2 (fB_fitsRow N x2 l1 h) fun x3 h4 => cond (z_cmp .ne x3 (Int32.ofInt 0)) (cond (z_cmp .ge l2 (Int32.ofInt 0)) (b2 (fB_findRowLetter N l0 l1 l2 h4) fun x5 h6 => fB_bruijnLetter_50 N  x5 h6) (fB_bruijnLetter_50 N  (Int32.ofInt (-1)) h4)) (fB_bruijnLetter_25 N   h4)))) none
theorem sfB_bruijnLetter {xs : List Int32} (N : Nat) (l0 : Nat) (l1 : Int32) (l2 : Int32) (h : zH) (r : (Int32 ⊕ Nat) × zH) (e : fB_bruijnLetter N l0 l1 l2 h = some r) : zt xs (4) 125 0 [(0, .ref l0), (1, .int l1), (2, .int l2)] [] h 0 0 (zQ (cX cI) r) := by
  have hy := mfB_bruijnLetter
  unfold fB_bruijnLetter at e
  replace e := (cond_some e).2
  exact zl hy 2 (pc2 := 2) (lv2 := [(0, .ref l0), (1, .int l1), (2, .int l2)]) (st2 := [.int (Int32.ofInt 1), .int l1]) rfl <| zx_c hy rfl e (fun _ e => zt_sub (z_fn) <| sfB_bruijnLetter_25 N    h _ e) (fun _ e => zl hy 1 (pc2 := 6) (lv2 := [(0, .ref l0), (1, .int l1), (2, .int l2)]) (st2 := [.int l1]) rfl <| zx_bip hy (c := 12) rfl (by decide) <| zx_c hy rfl e (fun _ e => zt_sub (z_fn) <| sfB_bruijnLetter_25 N    h _ e) (fun _ e => zl hy 1 (pc2 := 12) (lv2 := [(0, .ref l0), (1, .int l1), (2, .int l2)]) (st2 := [.ref l0]) rfl <| zx_gR hy rfl e fun x1 _ e => zx_gI hy rfl e fun x2 _ e => zl hy 1 (pc2 := 19) (lv2 := [(0, .ref l0), (1, .int l1), (2, .int l2)]) (st2 := [.int l1, .int x2]) rfl <| zx_call hy (as := [.int x2, .int l1]) (rest := []) (ov := (fun v => some (.int v))) (fun _ => rfl) rfl rfl (Or.inr (Or.inl rfl)) rfl rfl (Nat.le_of_ble_eq_true rfl) (Nat.le_of_ble_eq_true rfl) (fun _ _ hz => absurd rfl hz) (fun _ e => zt_deep (Nat.le_of_ble_eq_true rfl) (sfB_fitsRow N x2 l1 h _ e)) e fun x3 h4 _ e => zx_c0 hy rfl e (fun _ e => zl hy 1 (pc2 := 37) (lv2 := [(0, .ref l0), (1, .int l1), (2, .int l2)]) (st2 := [.int l2]) rfl <| zx_c0 hy rfl e (fun _ e => zl hy 3 (pc2 := 47) (lv2 := [(0, .ref l0), (1, .int l1), (2, .int l2)]) (st2 := [.int l2, .int l1, .ref l0]) rfl <| zx_call hy (as := [.ref l0, .int l1, .int l2]) (rest := []) (ov := (fun v => some (.int v))) (fun _ => rfl) rfl rfl (Or.inl rfl) rfl rfl (Nat.le_of_ble_eq_true rfl) (Nat.le_of_ble_eq_true rfl) (fun _ e _ => z_rcvT (rfB_findRowLetter N l0 l1 l2 h4 _ e)) (fun _ e => zt_deep (Nat.le_of_ble_eq_true rfl) (sfB_findRowLetter N l0 l1 l2 h4 _ e)) e fun x5 h6 _ e => zt_sub (z_fn) <| sfB_bruijnLetter_50 N   x5 h6 _ e) (fun _ e => zl hy 2 (pc2 := 50) (lv2 := [(0, .ref l0), (1, .int l1), (2, .int l2)]) (st2 := [.int (Int32.ofInt (-1))]) rfl <| zt_sub (z_fn) <| sfB_bruijnLetter_50 N   (Int32.ofInt (-1)) h4 _ e)) (fun _ e => zt_sub (z_fn) <| sfB_bruijnLetter_25 N    h4 _ e)))
theorem rfB_bruijnLetter (N : Nat) (l0 : Nat) (l1 : Int32) (l2 : Int32) (h : zH) (r : (Int32 ⊕ Nat) × zH) (e : fB_bruijnLetter N l0 l1 l2 h = some r) : fT h l0 0 = true := by
  unfold fB_bruijnLetter at e
  exact (cond_some e).1
/-- LyndonBench.keptCount()I -/
theorem mfB_keptCount : z_me 126 zc_126 1 [] (some .int) := ⟨z_me0 rfl, rfl, rfl, rfl⟩
def fB_keptCount (N : Nat) (l0 : Nat) (h : zH) : Option (Int32 × zH) := cond (fT h l0 0) (b1 (fR h l0 0 0) fun x1 => b1 (fI h x1 3 3) fun x2 => some (x2, h)) none
theorem sfB_keptCount {xs : List Int32} (N : Nat) (l0 : Nat) (h : zH) (r : Int32 × zH) (e : fB_keptCount N l0 h = some r) : zt xs (1) 126 0 [(0, .ref l0)] [] h 0 0 (zQ cI r) := by
  have hy := mfB_keptCount
  unfold fB_keptCount at e
  replace e := (cond_some e).2
  exact zl hy 1 (pc2 := 1) (lv2 := [(0, .ref l0)]) (st2 := [.ref l0]) rfl <| zx_gR hy rfl e fun x1 _ e => zx_gI hy rfl e fun x2 _ e => zx_ret hy rfl rfl rfl rfl e
theorem rfB_keptCount (N : Nat) (l0 : Nat) (h : zH) (r : Int32 × zH) (e : fB_keptCount N l0 h = some r) : fT h l0 0 = true := by
  unfold fB_keptCount at e
  exact (cond_some e).1
/-- LyndonBench.keptLength(I)I -/
theorem mfB_keptLength : z_me 127 zc_127 3 [] (some .int) := ⟨z_me0 rfl, rfl, rfl, rfl⟩
def fB_keptLength (N : Nat) (l0 : Nat) (l1 : Int32) (h : zH) : Option ((Int32 ⊕ Nat) × zH) := cond (fT h l0 0) (b1 (fR h l0 0 0) fun x1 => b2 (fS_keptAt N x1 l1 h) fun x2 h3 => (match x2 with | none => some (Sum.inr 2, h3) | some x4 => cond (fX h3 x4) (b1 (fI h3 x4 4 1) fun x5 => some (Sum.inl x5, h3)) none)) none
theorem sfB_keptLength {xs : List Int32} (N : Nat) (l0 : Nat) (l1 : Int32) (h : zH) (r : (Int32 ⊕ Nat) × zH) (e : fB_keptLength N l0 l1 h = some r) : zt xs (2) 127 0 [(0, .ref l0), (1, .int l1)] [] h 0 0 (zQ (cX cI) r) := by
  have hy := mfB_keptLength
  unfold fB_keptLength at e
  replace e := (cond_some e).2
  exact zl hy 1 (pc2 := 1) (lv2 := [(0, .ref l0), (1, .int l1)]) (st2 := [.ref l0]) rfl <| zx_gR hy rfl e fun x1 _ e => zl hy 1 (pc2 := 5) (lv2 := [(0, .ref l0), (1, .int l1)]) (st2 := [.int l1, .ref x1]) rfl <| zx_call hy (as := [.ref x1, .int l1]) (rest := []) (ov := (fun v => some (va_rf v))) (fun _ => rfl) rfl rfl (Or.inl rfl) rfl rfl (Nat.le_of_ble_eq_true rfl) (Nat.le_of_ble_eq_true rfl) (fun _ e _ => z_rcvT (rfS_keptAt N x1 l1 h _ e)) (fun _ e => zt_deep (Nat.le_of_ble_eq_true rfl) (sfS_keptAt N x1 l1 h _ e)) e fun x2 h3 _ e => (match x2, e with | none, e => zl hy 2 (pc2 := 10) (lv2 := [(2, .null), (0, .ref l0), (1, .int l1)]) (st2 := [.null]) rfl <| zx_nonnullN hy rfl <| zx_thr hy rfl (Nat.le_of_ble_eq_true rfl) e | some x4, e => zl hy 2 (pc2 := 10) (lv2 := [(2, .ref x4), (0, .ref l0), (1, .int l1)]) (st2 := [.ref x4]) rfl <| zx_nonnullR hy rfl e fun e => zl hy 1 (pc2 := 24) (lv2 := [(2, .ref x4), (0, .ref l0), (1, .int l1)]) (st2 := [.ref x4]) rfl <| zx_gI hy rfl e fun x5 _ e => zx_ret hy rfl rfl rfl rfl e)
theorem rfB_keptLength (N : Nat) (l0 : Nat) (l1 : Int32) (h : zH) (r : (Int32 ⊕ Nat) × zH) (e : fB_keptLength N l0 l1 h = some r) : fT h l0 0 = true := by
  unfold fB_keptLength at e
  exact (cond_some e).1
/-- LyndonBench.keptLetter(II)I -/
theorem mfB_keptLetter : z_me 128 zc_128 4 [] (some .int) := ⟨z_me0 rfl, rfl, rfl, rfl⟩
def fB_keptLetter (N : Nat) (l0 : Nat) (l1 : Int32) (l2 : Int32) (h : zH) : Option ((Int32 ⊕ Nat) × zH) := cond (fT h l0 0) (b1 (fR h l0 0 0) fun x1 => b2 (fS_keptAt N x1 l1 h) fun x2 h3 => (match x2 with | none => some (Sum.inr 2, h3) | some x4 => cond (fX h3 x4) (b2 (fW_at N x4 l2 h3) fun x5 h6 => some (Sum.inl x5, h6)) none)) none
theorem sfB_keptLetter {xs : List Int32} (N : Nat) (l0 : Nat) (l1 : Int32) (l2 : Int32) (h : zH) (r : (Int32 ⊕ Nat) × zH) (e : fB_keptLetter N l0 l1 l2 h = some r) : zt xs (2) 128 0 [(0, .ref l0), (1, .int l1), (2, .int l2)] [] h 0 0 (zQ (cX cI) r) := by
  have hy := mfB_keptLetter
  unfold fB_keptLetter at e
  replace e := (cond_some e).2
  exact zl hy 1 (pc2 := 1) (lv2 := [(0, .ref l0), (1, .int l1), (2, .int l2)]) (st2 := [.ref l0]) rfl <| zx_gR hy rfl e fun x1 _ e => zl hy 1 (pc2 := 5) (lv2 := [(0, .ref l0), (1, .int l1), (2, .int l2)]) (st2 := [.int l1, .ref x1]) rfl <| zx_call hy (as := [.ref x1, .int l1]) (rest := []) (ov := (fun v => some (va_rf v))) (fun _ => rfl) rfl rfl (Or.inl rfl) rfl rfl (Nat.le_of_ble_eq_true rfl) (Nat.le_of_ble_eq_true rfl) (fun _ e _ => z_rcvT (rfS_keptAt N x1 l1 h _ e)) (fun _ e => zt_deep (Nat.le_of_ble_eq_true rfl) (sfS_keptAt N x1 l1 h _ e)) e fun x2 h3 _ e => (match x2, e with | none, e => zl hy 2 (pc2 := 10) (lv2 := [(3, .null), (0, .ref l0), (1, .int l1), (2, .int l2)]) (st2 := [.null]) rfl <| zx_nonnullN hy rfl <| zx_thr hy rfl (Nat.le_of_ble_eq_true rfl) e | some x4, e => zl hy 2 (pc2 := 10) (lv2 := [(3, .ref x4), (0, .ref l0), (1, .int l1), (2, .int l2)]) (st2 := [.ref x4]) rfl <| zx_nonnullR hy rfl e fun e => zl hy 2 (pc2 := 25) (lv2 := [(3, .ref x4), (0, .ref l0), (1, .int l1), (2, .int l2)]) (st2 := [.int l2, .ref x4]) rfl <| zx_call hy (as := [.ref x4, .int l2]) (rest := []) (ov := (fun v => some (.int v))) (fun _ => rfl) rfl rfl (Or.inl rfl) rfl rfl (Nat.le_of_ble_eq_true rfl) (Nat.le_of_ble_eq_true rfl) (fun _ e _ => z_rcvT (rfW_at N x4 l2 h3 _ e)) (fun _ e => zt_deep (Nat.le_of_ble_eq_true rfl) (sfW_at N x4 l2 h3 _ e)) e fun x5 h6 _ e => zx_ret hy rfl rfl rfl rfl e)
theorem rfB_keptLetter (N : Nat) (l0 : Nat) (l1 : Int32) (l2 : Int32) (h : zH) (r : (Int32 ⊕ Nat) × zH) (e : fB_keptLetter N l0 l1 l2 h = some r) : fT h l0 0 = true := by
  unfold fB_keptLetter at e
  exact (cond_some e).1
/-- LyndonBench.isShelfFalling()Z -/
theorem mfB_isShelfFalling : z_me 129 zc_129 4 [] (some .boolean) := ⟨z_me0 rfl, rfl, rfl, rfl⟩
def fB_isShelfFalling_61 (N : Nat) (k2 : Nat → Int32 → zH → Option (Int32 × zH)) (l0 : Nat) (l1 : Int32) (h : zH) : Option (Int32 × zH) := k2 l0 (l1 + Int32.ofInt 1) h
theorem sfB_isShelfFalling_61 {xs : List Int32} (N : Nat) (k2 : Nat → Int32 → zH → Option (Int32 × zH))  (hk2 : ∀ (l0 : Nat) (l1 : Int32) (h : zH) (r : Int32 × zH), k2 l0 l1 h = some r → zt xs (3) 129 2 [(0, .ref l0), (1, .int l1)] [] h 0 0 (zQ cI r)) (l0 : Nat) (l1 : Int32) (h : zH) (r : Int32 × zH) (e : fB_isShelfFalling_61 N k2 l0 l1 h = some r) : zt xs (3) 129 61 [(0, .ref l0), (1, .int l1)] [] h 0 0 (zQ cI r) := by
  have hy := mfB_isShelfFalling
  unfold fB_isShelfFalling_61 at e
  exact zl hy 2 (pc2 := 2) (lv2 := [(1, .int (l1 + Int32.ofInt 1)), (0, .ref l0)]) (st2 := []) rfl <| zt_sub (z_fc rfl (z_fc rfl (z_fn))) <| hk2 l0 (l1 + Int32.ofInt 1) h _ e
def fB_isShelfFalling_2 (N : Nat) : Nat → Nat → Int32 → zH → Option (Int32 × zH)
  | 0, _, _, _ => none
  | n + 1, l0, l1, h => b1 (fR h l0 0 0) fun x1 => b1 (fI h x1 3 3) fun x2 => cond (z_cmp .ge l1 x2) (some ((Int32.ofInt 1), h)) (b1 (fR h l0 0 0) fun x3 => b2 (fS_keptAt N x3 l1 h) fun x4 h5 => (match x4 with | none => b1 (fR h5 l0 0 0) fun x7 => b2 (fS_keptAt N x7 (l1 - (Int32.ofInt 1)) h5) fun x8 h9 => (match x8 with | none => fB_isShelfFalling_61 N (fB_isShelfFalling_2 N n ) l0 l1 h9 | some x10 => fB_isShelfFalling_61 N (fB_isShelfFalling_2 N n ) l0 l1 h9) | some x6 => b1 (fR h5 l0 0 0) fun x11 => b2 (fS_keptAt N x11 (l1 - (Int32.ofInt 1)) h5) fun x12 h13 => (match x12 with | none => cond (fX h13 x6) (fB_isShelfFalling_61 N (fB_isShelfFalling_2 N n ) l0 l1 h13) none | some x14 => cond (fX h13 x6) (cond (fX h13 x14) (b1 (fI h13 x6 4 1) fun x15 => b1 (fI h13 x14 4 1) fun x16 => b2 (fW_order N x6 (Int32.ofInt 0) x15 x14 (Int32.ofInt 0) x16 h13) fun x17 h18 => cond (z_cmp .le x17 (Int32.ofInt 0)) (fB_isShelfFalling_61 N (fB_isShelfFalling_2 N n ) l0 l1 h18) (some ((Int32.ofInt 0), h18))) none) none)))
theorem sfB_isShelfFalling_2 {xs : List Int32} (N : Nat)   : ∀ (n : Nat) (l0 : Nat) (l1 : Int32) (h : zH) (r : Int32 × zH), fB_isShelfFalling_2 N n  l0 l1 h = some r → zt xs (3) 129 2 [(0, .ref l0), (1, .int l1)] [] h 0 0 (zQ cI r) := by
  have hy := mfB_isShelfFalling
  intro n
  induction n with
  | zero =>
    intro l0 l1 h r e
    rw [fB_isShelfFalling_2] at e
    cases e
  | succ n ih =>
    intro l0 l1 h r e
    rw [fB_isShelfFalling_2] at e
    exact zl hy 2 (pc2 := 4) (lv2 := [(0, .ref l0), (1, .int l1)]) (st2 := [.ref l0, .int l1]) rfl <| zx_gR hy rfl e fun x1 _ e => zx_gI hy rfl e fun x2 _ e => zx_c hy rfl e (fun _ e => zl hy 1 (pc2 := 68) (lv2 := [(0, .ref l0), (1, .int l1)]) (st2 := [.int (Int32.ofInt 1)]) rfl <| zx_ret hy (v := .int (Int32.ofInt 1)) rfl rfl (by decide) rfl e) (fun _ e => zl hy 1 (pc2 := 14) (lv2 := [(0, .ref l0), (1, .int l1)]) (st2 := [.ref l0]) rfl <| zx_gR hy rfl e fun x3 _ e => zl hy 1 (pc2 := 18) (lv2 := [(0, .ref l0), (1, .int l1)]) (st2 := [.int l1, .ref x3]) rfl <| zx_call hy (as := [.ref x3, .int l1]) (rest := []) (ov := (fun v => some (va_rf v))) (fun _ => rfl) rfl rfl (Or.inl rfl) rfl rfl (Nat.le_of_ble_eq_true rfl) (Nat.le_of_ble_eq_true rfl) (fun _ e _ => z_rcvT (rfS_keptAt N x3 l1 h _ e)) (fun _ e => zt_deep (Nat.le_of_ble_eq_true rfl) (sfS_keptAt N x3 l1 h _ e)) e fun x4 h5 _ e => (match x4, e with | none, e => zl hy 2 (pc2 := 23) (lv2 := [(2, .null), (0, .ref l0), (1, .int l1)]) (st2 := [.ref l0]) rfl <| zx_gR hy rfl e fun x7 _ e => zl hy 3 (pc2 := 29) (lv2 := [(2, .null), (0, .ref l0), (1, .int l1)]) (st2 := [.int (l1 - (Int32.ofInt 1)), .ref x7]) rfl <| zx_call hy (as := [.ref x7, .int (l1 - (Int32.ofInt 1))]) (rest := []) (ov := (fun v => some (va_rf v))) (fun _ => rfl) rfl rfl (Or.inl rfl) rfl rfl (Nat.le_of_ble_eq_true rfl) (Nat.le_of_ble_eq_true rfl) (fun _ e _ => z_rcvT (rfS_keptAt N x7 (l1 - (Int32.ofInt 1)) h5 _ e)) (fun _ e => zt_deep (Nat.le_of_ble_eq_true rfl) (sfS_keptAt N x7 (l1 - (Int32.ofInt 1)) h5 _ e)) e fun x8 h9 _ e => (match x8, e with | none, e => zl hy 2 (pc2 := 34) (lv2 := [(3, .null), (2, .null), (0, .ref l0), (1, .int l1)]) (st2 := [.null]) rfl <| zx_nullN hy rfl <| zt_sub (z_fc rfl (z_fc rfl (z_fn))) <| sfB_isShelfFalling_61 N (fB_isShelfFalling_2 N n ) ih l0 l1 h9 _ e | some x10, e => zl hy 2 (pc2 := 34) (lv2 := [(3, .ref x10), (2, .null), (0, .ref l0), (1, .int l1)]) (st2 := [.null]) rfl <| zx_nullN hy rfl <| zt_sub (z_fc rfl (z_fc rfl (z_fn))) <| sfB_isShelfFalling_61 N (fB_isShelfFalling_2 N n ) ih l0 l1 h9 _ e) | some x6, e => zl hy 2 (pc2 := 23) (lv2 := [(2, .ref x6), (0, .ref l0), (1, .int l1)]) (st2 := [.ref l0]) rfl <| zx_gR hy rfl e fun x11 _ e => zl hy 3 (pc2 := 29) (lv2 := [(2, .ref x6), (0, .ref l0), (1, .int l1)]) (st2 := [.int (l1 - (Int32.ofInt 1)), .ref x11]) rfl <| zx_call hy (as := [.ref x11, .int (l1 - (Int32.ofInt 1))]) (rest := []) (ov := (fun v => some (va_rf v))) (fun _ => rfl) rfl rfl (Or.inl rfl) rfl rfl (Nat.le_of_ble_eq_true rfl) (Nat.le_of_ble_eq_true rfl) (fun _ e _ => z_rcvT (rfS_keptAt N x11 (l1 - (Int32.ofInt 1)) h5 _ e)) (fun _ e => zt_deep (Nat.le_of_ble_eq_true rfl) (sfS_keptAt N x11 (l1 - (Int32.ofInt 1)) h5 _ e)) e fun x12 h13 _ e => (match x12, e with | none, e => zl hy 2 (pc2 := 34) (lv2 := [(3, .null), (2, .ref x6), (0, .ref l0), (1, .int l1)]) (st2 := [.ref x6]) rfl <| zx_nullR hy rfl e fun e => zl hy 1 (pc2 := 38) (lv2 := [(3, .null), (2, .ref x6), (0, .ref l0), (1, .int l1)]) (st2 := [.null]) rfl <| zx_nullN hy rfl <| zt_sub (z_fc rfl (z_fc rfl (z_fn))) <| sfB_isShelfFalling_61 N (fB_isShelfFalling_2 N n ) ih l0 l1 h13 _ e | some x14, e => zl hy 2 (pc2 := 34) (lv2 := [(3, .ref x14), (2, .ref x6), (0, .ref l0), (1, .int l1)]) (st2 := [.ref x6]) rfl <| zx_nullR hy rfl e fun e => zl hy 1 (pc2 := 38) (lv2 := [(3, .ref x14), (2, .ref x6), (0, .ref l0), (1, .int l1)]) (st2 := [.ref x14]) rfl <| zx_nullR hy rfl e fun e => zl hy 3 (pc2 := 44) (lv2 := [(3, .ref x14), (2, .ref x6), (0, .ref l0), (1, .int l1)]) (st2 := [.ref x6, .int (Int32.ofInt 0), .ref x6]) rfl <| zx_gI hy rfl e fun x15 _ e => zl hy 3 (pc2 := 50) (lv2 := [(3, .ref x14), (2, .ref x6), (0, .ref l0), (1, .int l1)]) (st2 := [.ref x14, .int (Int32.ofInt 0), .ref x14, .int x15, .int (Int32.ofInt 0), .ref x6]) rfl <| zx_gI hy rfl e fun x16 _ e => zx_call hy (as := [.ref x6, .int (Int32.ofInt 0), .int x15, .ref x14, .int (Int32.ofInt 0), .int x16]) (rest := []) (ov := (fun v => some (.int v))) (fun _ => rfl) rfl rfl (Or.inl rfl) rfl rfl (Nat.le_of_ble_eq_true rfl) (Nat.le_of_ble_eq_true rfl) (fun _ e _ => z_rcvT (rfW_order N x6 (Int32.ofInt 0) x15 x14 (Int32.ofInt 0) x16 h13 _ e)) (fun _ e => zt_deep (Nat.le_of_ble_eq_true rfl) (sfW_order N x6 (Int32.ofInt 0) x15 x14 (Int32.ofInt 0) x16 h13 _ e)) e fun x17 h18 _ e => zx_c0 hy rfl e (fun _ e => zt_sub (z_fc rfl (z_fc rfl (z_fn))) <| sfB_isShelfFalling_61 N (fB_isShelfFalling_2 N n ) ih l0 l1 h18 _ e) (fun _ e => zl hy 1 (pc2 := 60) (lv2 := [(3, .ref x14), (2, .ref x6), (0, .ref l0), (1, .int l1)]) (st2 := [.int (Int32.ofInt 0)]) rfl <| zx_ret hy (v := .int (Int32.ofInt 0)) rfl rfl (by decide) rfl e))))
def fB_isShelfFalling (N : Nat) (l0 : Nat) (h : zH) : Option (Int32 × zH) := cond (fT h l0 0) (fB_isShelfFalling_2 N N  l0 (Int32.ofInt 1) h) none
theorem sfB_isShelfFalling {xs : List Int32} (N : Nat) (l0 : Nat) (h : zH) (r : Int32 × zH) (e : fB_isShelfFalling N l0 h = some r) : zt xs (3) 129 0 [(0, .ref l0)] [] h 0 0 (zQ cI r) := by
  have hy := mfB_isShelfFalling
  unfold fB_isShelfFalling at e
  replace e := (cond_some e).2
  exact zl hy 2 (pc2 := 2) (lv2 := [(1, .int (Int32.ofInt 1)), (0, .ref l0)]) (st2 := []) rfl <| zt_sub (z_fc rfl (z_fc rfl (z_fn))) <| sfB_isShelfFalling_2 N   N l0 (Int32.ofInt 1) h _ e
theorem rfB_isShelfFalling (N : Nat) (l0 : Nat) (h : zH) (r : Int32 × zH) (e : fB_isShelfFalling N l0 h = some r) : fT h l0 0 = true := by
  unfold fB_isShelfFalling at e
  exact (cond_some e).1
/-- LyndonBench.greatestKept()I -/
theorem mfB_greatestKept : z_me 130 zc_130 1 [] (some .int) := ⟨z_me0 rfl, rfl, rfl, rfl⟩
def fB_greatestKept (N : Nat) (l0 : Nat) (h : zH) : Option (Int32 × zH) := cond (fT h l0 0) (b1 (fR h l0 0 0) fun x1 => b2 (fS_greatestOfShelf N x1 (Int32.ofInt 0) h) fun x2 h3 => some (x2, h3)) none
theorem sfB_greatestKept {xs : List Int32} (N : Nat) (l0 : Nat) (h : zH) (r : Int32 × zH) (e : fB_greatestKept N l0 h = some r) : zt xs (4) 130 0 [(0, .ref l0)] [] h 0 0 (zQ cI r) := by
  have hy := mfB_greatestKept
  unfold fB_greatestKept at e
  replace e := (cond_some e).2
  exact zl hy 1 (pc2 := 1) (lv2 := [(0, .ref l0)]) (st2 := [.ref l0]) rfl <| zx_gR hy rfl e fun x1 _ e => zl hy 1 (pc2 := 5) (lv2 := [(0, .ref l0)]) (st2 := [.int (Int32.ofInt 0), .ref x1]) rfl <| zx_call hy (as := [.ref x1, .int (Int32.ofInt 0)]) (rest := []) (ov := (fun v => some (.int v))) (fun _ => rfl) rfl rfl (Or.inl rfl) rfl rfl (Nat.le_of_ble_eq_true rfl) (Nat.le_of_ble_eq_true rfl) (fun _ e _ => z_rcvT (rfS_greatestOfShelf N x1 (Int32.ofInt 0) h _ e)) (fun _ e => zt_deep (Nat.le_of_ble_eq_true rfl) (sfS_greatestOfShelf N x1 (Int32.ofInt 0) h _ e)) e fun x2 h3 _ e => zx_ret hy rfl rfl rfl rfl e
theorem rfB_greatestKept (N : Nat) (l0 : Nat) (h : zH) (r : Int32 × zH) (e : fB_greatestKept N l0 h = some r) : fT h l0 0 = true := by
  unfold fB_greatestKept at e
  exact (cond_some e).1
/-- LyndonBench.meanFactor()D -/
theorem mfB_meanFactor : z_me 131 zc_131 2 [] (some .double) := ⟨z_me0 rfl, rfl, rfl, rfl⟩
def fB_meanFactor_33 (N : Nat)  (s0 : UInt64) (h : zH) : Option (UInt64 × zH) := some (s0, h)
theorem sfB_meanFactor_33 {xs : List Int32} (N : Nat)   (s0 : UInt64) (h : zH) (r : UInt64 × zH) (e : fB_meanFactor_33 N  s0 h = some r) : zt xs (5) 131 33 [] [.double s0] h 0 0 (zQ cD r) := by
  have hy := mfB_meanFactor
  unfold fB_meanFactor_33 at e
  exact zx_ret hy rfl rfl rfl rfl e
def fB_meanFactor (N : Nat) (l0 : Nat) (h : zH) : Option (UInt64 × zH) := cond (fT h l0 0) (b1 (fR h l0 0 0) fun x1 => b1 (fR h x1 3 1) fun x2 => b2 (fW_countFactors N x2 h) fun x3 h4 => cond (z_cmp .ne x3 (Int32.ofInt 0)) (b1 (fR h4 l0 0 0) fun x5 => b1 (fR h4 x5 3 1) fun x6 => b1 (fI h4 x6 4 1) fun x7 => (if FP.ddiv (FP.i2d x7) (FP.i2d x3) &&& 0x7fffffffffffffff ≤ 0x7ff0000000000000 then fB_meanFactor_33 N  (FP.ddiv (FP.i2d x7) (FP.i2d x3)) h4 else none)) (fB_meanFactor_33 N  FP.dconst0 h4)) none
theorem sfB_meanFactor {xs : List Int32} (N : Nat) (l0 : Nat) (h : zH) (r : UInt64 × zH) (e : fB_meanFactor N l0 h = some r) : zt xs (5) 131 0 [(0, .ref l0)] [] h 0 0 (zQ cD r) := by
  have hy := mfB_meanFactor
  unfold fB_meanFactor at e
  replace e := (cond_some e).2
  exact zl hy 1 (pc2 := 1) (lv2 := [(0, .ref l0)]) (st2 := [.ref l0]) rfl <| zx_gR hy rfl e fun x1 _ e => zx_gR hy rfl e fun x2 _ e => zx_call hy (as := [.ref x2]) (rest := []) (ov := (fun v => some (.int v))) (fun _ => rfl) rfl rfl (Or.inl rfl) rfl rfl (Nat.le_of_ble_eq_true rfl) (Nat.le_of_ble_eq_true rfl) (fun _ e _ => z_rcvT (rfW_countFactors N x2 h _ e)) (fun _ e => zt_deep (Nat.le_of_ble_eq_true rfl) (sfW_countFactors N x2 h _ e)) e fun x3 h4 _ e => zl hy 2 (pc2 := 12) (lv2 := [(1, .int x3), (0, .ref l0)]) (st2 := [.int x3]) rfl <| zx_c0 hy rfl e (fun _ e => zl hy 1 (pc2 := 20) (lv2 := [(1, .int x3), (0, .ref l0)]) (st2 := [.ref l0]) rfl <| zx_gR hy rfl e fun x5 _ e => zx_gR hy rfl e fun x6 _ e => zx_gI hy rfl e fun x7 _ e => zl hy 3 (pc2 := 32) (lv2 := [(1, .int x3), (0, .ref l0)]) (st2 := [.double (FP.i2d x3), .double (FP.i2d x7)]) rfl <| zx_ddiv hy (G := fun _ => fB_meanFactor_33 N  (FP.ddiv (FP.i2d x7) (FP.i2d x3)) h4) rfl e fun e => zt_sub (z_fn) <| sfB_meanFactor_33 N   (FP.ddiv (FP.i2d x7) (FP.i2d x3)) h4 _ e) (fun _ e => zl hy 2 (pc2 := 33) (lv2 := [(1, .int x3), (0, .ref l0)]) (st2 := [.double FP.dconst0]) rfl <| zt_sub (z_fn) <| sfB_meanFactor_33 N   FP.dconst0 h4 _ e)
theorem rfB_meanFactor (N : Nat) (l0 : Nat) (h : zH) (r : UInt64 × zH) (e : fB_meanFactor N l0 h = some r) : fT h l0 0 = true := by
  unfold fB_meanFactor at e
  exact (cond_some e).1
/-- LyndonBench.lyndonShare()F -/
theorem mfB_lyndonShare : z_me 132 zc_132 3 [] (some .float) := ⟨z_me0 rfl, rfl, rfl, rfl⟩
def fB_lyndonShare_47 (N : Nat)  (s0 : UInt32) (h : zH) : Option (UInt32 × zH) := some (s0, h)
theorem sfB_lyndonShare_47 {xs : List Int32} (N : Nat)   (s0 : UInt32) (h : zH) (r : UInt32 × zH) (e : fB_lyndonShare_47 N  s0 h = some r) : zt xs (3) 132 47 [] [.float s0] h 0 0 (zQ cF r) := by
  have hy := mfB_lyndonShare
  unfold fB_lyndonShare_47 at e
  exact zx_ret hy rfl rfl rfl rfl e
def fB_lyndonShare (N : Nat) (l0 : Nat) (h : zH) : Option (UInt32 × zH) := cond (fT h l0 0) (b1 (fR h l0 0 0) fun x1 => b1 (fI h x1 3 0) fun x2 => b2 (fB_weighPowers N x2 (Int32.ofInt 6) 1000013 h) fun x3 h4 => b1 (fR h4 l0 0 0) fun x5 => b1 (fI h4 x5 3 0) fun x6 => b2 (fB_weighPowers N x6 (Int32.ofInt 6) 1000014 h4) fun x7 h8 => cond (z_cmp .le (Op.cmpValue (FP.fcmp (FP.l2f x7) FP.fconst0) .l) (Int32.ofInt 0)) (fB_lyndonShare_47 N  FP.fconst0 h8) ((if FP.fdiv (FP.l2f x3) (FP.l2f x7) &&& 0x7fffffff ≤ 0x7f800000 then fB_lyndonShare_47 N  (FP.fdiv (FP.l2f x3) (FP.l2f x7)) h8 else none))) none
theorem sfB_lyndonShare {xs : List Int32} (N : Nat) (l0 : Nat) (h : zH) (r : UInt32 × zH) (e : fB_lyndonShare N l0 h = some r) : zt xs (3) 132 0 [(0, .ref l0)] [] h 0 0 (zQ cF r) := by
  have hy := mfB_lyndonShare
  unfold fB_lyndonShare at e
  replace e := (cond_some e).2
  exact zl hy 1 (pc2 := 1) (lv2 := [(0, .ref l0)]) (st2 := [.ref l0]) rfl <| zx_gR hy rfl e fun x1 _ e => zx_gI hy rfl e fun x2 _ e => zx_bip hy (c := 6) rfl (by decide) <| zx_gs hy (v := .ref 1000013) rfl rfl rfl <| zx_call hy (as := [.int x2, .int (Int32.ofInt 6), .ref 1000013]) (rest := []) (ov := (fun v => some (.long v))) (fun _ => rfl) rfl rfl (Or.inr (Or.inl rfl)) rfl rfl (Nat.le_of_ble_eq_true rfl) (Nat.le_of_ble_eq_true rfl) (fun _ _ hz => absurd rfl hz) (fun _ e => zt_deep (Nat.le_of_ble_eq_true rfl) (sfB_weighPowers N x2 (Int32.ofInt 6) 1000013 h _ e)) e fun x3 h4 _ e => zl hy 3 (pc2 := 18) (lv2 := [(1, .float (FP.l2f x3)), (0, .ref l0)]) (st2 := [.ref l0]) rfl <| zx_gR hy rfl e fun x5 _ e => zx_gI hy rfl e fun x6 _ e => zx_bip hy (c := 6) rfl (by decide) <| zx_gs hy (v := .ref 1000014) rfl rfl rfl <| zx_call hy (as := [.int x6, .int (Int32.ofInt 6), .ref 1000014]) (rest := []) (ov := (fun v => some (.long v))) (fun _ => rfl) rfl rfl (Or.inr (Or.inl rfl)) rfl rfl (Nat.le_of_ble_eq_true rfl) (Nat.le_of_ble_eq_true rfl) (fun _ _ hz => absurd rfl hz) (fun _ e => zt_deep (Nat.le_of_ble_eq_true rfl) (sfB_weighPowers N x6 (Int32.ofInt 6) 1000014 h4 _ e)) e fun x7 h8 _ e => zl hy 5 (pc2 := 37) (lv2 := [(2, .float (FP.l2f x7)), (1, .float (FP.l2f x3)), (0, .ref l0)]) (st2 := [.int (Op.cmpValue (FP.fcmp (FP.l2f x7) FP.fconst0) .l)]) rfl <| zx_c0 hy rfl e (fun _ e => zl hy 1 (pc2 := 47) (lv2 := [(2, .float (FP.l2f x7)), (1, .float (FP.l2f x3)), (0, .ref l0)]) (st2 := [.float FP.fconst0]) rfl <| zt_sub (z_fn) <| sfB_lyndonShare_47 N   FP.fconst0 h8 _ e) (fun _ e => zl hy 2 (pc2 := 42) (lv2 := [(2, .float (FP.l2f x7)), (1, .float (FP.l2f x3)), (0, .ref l0)]) (st2 := [.float (FP.l2f x7), .float (FP.l2f x3)]) rfl <| zx_fdiv hy (G := fun _ => fB_lyndonShare_47 N  (FP.fdiv (FP.l2f x3) (FP.l2f x7)) h8) rfl e fun e => zl hy 1 (pc2 := 47) (lv2 := [(2, .float (FP.l2f x7)), (1, .float (FP.l2f x3)), (0, .ref l0)]) (st2 := [.float (FP.fdiv (FP.l2f x3) (FP.l2f x7))]) rfl <| zt_sub (z_fn) <| sfB_lyndonShare_47 N   (FP.fdiv (FP.l2f x3) (FP.l2f x7)) h8 _ e)
theorem rfB_lyndonShare (N : Nat) (l0 : Nat) (h : zH) (r : UInt32 × zH) (e : fB_lyndonShare N l0 h = some r) : fT h l0 0 = true := by
  unfold fB_lyndonShare at e
  exact (cond_some e).1
/-- LyndonBench.violations()I -/
theorem mfB_violations : z_me 133 zc_133 7 [] (some .int) := ⟨z_me0 rfl, rfl, rfl, rfl⟩
def fB_violations_125 (N : Nat)  (l2 : Int32) (h : zH) : Option (Int32 × zH) := some (l2, h)
theorem sfB_violations_125 {xs : List Int32} (N : Nat)   (l2 : Int32) (h : zH) (r : Int32 × zH) (e : fB_violations_125 N  l2 h = some r) : zt xs (4) 133 125 [(2, .int l2)] [] h 0 0 (zQ cI r) := by
  have hy := mfB_violations
  unfold fB_violations_125 at e
  exact zl hy 1 (pc2 := 126) (lv2 := [(2, .int l2)]) (st2 := [.int l2]) rfl <| zx_ret hy rfl rfl rfl rfl e
def fB_violations_106 (N : Nat)  (l1 : Nat) (l2 : Int32) (l3 : Int32) (h : zH) : Option (Int32 × zH) := b1 (fI h l1 4 1) fun x5 => cond (z_cmp .le x5 (Int32.ofInt 0)) (fB_violations_125 N  l2 h) (b2 (fW_extremeEnding N l1 (Int32.ofInt (-1)) h) fun x6 h7 => cond (z_cmp .eq l3 x6) (fB_violations_125 N  l2 h7) (fB_violations_125 N  (l2 + Int32.ofInt 1) h7))
theorem sfB_violations_106 {xs : List Int32} (N : Nat)   (l1 : Nat) (l2 : Int32) (l3 : Int32) (h : zH) (r : Int32 × zH) (e : fB_violations_106 N  l1 l2 l3 h = some r) : zt xs (4) 133 106 [(1, .ref l1), (2, .int l2), (3, .int l3)] [] h 0 0 (zQ cI r) := by
  have hy := mfB_violations
  unfold fB_violations_106 at e
  exact zl hy 1 (pc2 := 107) (lv2 := [(1, .ref l1), (2, .int l2), (3, .int l3)]) (st2 := [.ref l1]) rfl <| zx_gI hy rfl e fun x5 _ e => zx_c0 hy rfl e (fun _ e => zt_sub (z_fc rfl (z_fn)) <| sfB_violations_125 N   l2 h _ e) (fun _ e => zl hy 3 (pc2 := 116) (lv2 := [(1, .ref l1), (2, .int l2), (3, .int l3)]) (st2 := [.int (Int32.ofInt (-1)), .ref l1, .int l3]) rfl <| zx_call hy (as := [.ref l1, .int (Int32.ofInt (-1))]) (rest := [.int l3]) (ov := (fun v => some (.int v))) (fun _ => rfl) rfl rfl (Or.inl rfl) rfl rfl (Nat.le_of_ble_eq_true rfl) (Nat.le_of_ble_eq_true rfl) (fun _ e _ => z_rcvT (rfW_extremeEnding N l1 (Int32.ofInt (-1)) h _ e)) (fun _ e => zt_deep (Nat.le_of_ble_eq_true rfl) (sfW_extremeEnding N l1 (Int32.ofInt (-1)) h _ e)) e fun x6 h7 _ e => zx_c hy rfl e (fun _ e => zt_sub (z_fc rfl (z_fn)) <| sfB_violations_125 N   l2 h7 _ e) (fun _ e => zl hy 1 (pc2 := 125) (lv2 := [(2, .int (l2 + Int32.ofInt 1)), (1, .ref l1), (3, .int l3)]) (st2 := []) rfl <| zt_sub (z_fc rfl (z_fn)) <| sfB_violations_125 N   (l2 + Int32.ofInt 1) h7 _ e))
def fB_violations_94 (N : Nat)  (l1 : Nat) (l2 : Int32) (l3 : Int32) (l4 : Int32) (h : zH) : Option (Int32 × zH) := b1 (fI h l1 4 1) fun x4 => cond (z_cmp .eq l4 x4) (fB_violations_106 N  l1 l2 l3 h) (fB_violations_106 N  l1 (l2 + Int32.ofInt 1) l3 h)
theorem sfB_violations_94 {xs : List Int32} (N : Nat)   (l1 : Nat) (l2 : Int32) (l3 : Int32) (l4 : Int32) (h : zH) (r : Int32 × zH) (e : fB_violations_94 N  l1 l2 l3 l4 h = some r) : zt xs (4) 133 94 [(1, .ref l1), (2, .int l2), (3, .int l3), (4, .int l4)] [] h 0 0 (zQ cI r) := by
  have hy := mfB_violations
  unfold fB_violations_94 at e
  exact zl hy 2 (pc2 := 97) (lv2 := [(1, .ref l1), (2, .int l2), (3, .int l3), (4, .int l4)]) (st2 := [.ref l1, .int l4]) rfl <| zx_gI hy rfl e fun x4 _ e => zx_c hy rfl e (fun _ e => zt_sub (z_fc rfl (z_fc rfl (z_fc rfl (z_fn)))) <| sfB_violations_106 N   l1 l2 l3 h _ e) (fun _ e => zl hy 1 (pc2 := 106) (lv2 := [(2, .int (l2 + Int32.ofInt 1)), (1, .ref l1), (3, .int l3), (4, .int l4)]) (st2 := []) rfl <| zt_sub (z_fc rfl (z_fc rfl (z_fc rfl (z_fn)))) <| sfB_violations_106 N   l1 (l2 + Int32.ofInt 1) l3 h _ e)
def fB_violations_81 (N : Nat) (k18 : Nat → Int32 → Int32 → Int32 → Int32 → zH → Option (Int32 × zH)) (l1 : Nat) (l2 : Int32) (l4 : Int32) (l5 : Int32) (l6 : Int32) (h : zH) : Option (Int32 × zH) := k18 l1 l2 l4 l6 (l5 + Int32.ofInt 1) h
theorem sfB_violations_81 {xs : List Int32} (N : Nat) (k18 : Nat → Int32 → Int32 → Int32 → Int32 → zH → Option (Int32 × zH))  (hk18 : ∀ (l1 : Nat) (l2 : Int32) (l3 : Int32) (l4 : Int32) (l5 : Int32) (h : zH) (r : Int32 × zH), k18 l1 l2 l3 l4 l5 h = some r → zt xs (4) 133 18 [(1, .ref l1), (2, .int l2), (3, .int l3), (4, .int l4), (5, .int l5)] [] h 0 0 (zQ cI r)) (l1 : Nat) (l2 : Int32) (l4 : Int32) (l5 : Int32) (l6 : Int32) (h : zH) (r : Int32 × zH) (e : fB_violations_81 N k18 l1 l2 l4 l5 l6 h = some r) : zt xs (4) 133 81 [(1, .ref l1), (2, .int l2), (4, .int l4), (5, .int l5), (6, .int l6)] [] h 0 0 (zQ cI r) := by
  have hy := mfB_violations
  unfold fB_violations_81 at e
  exact zl hy 6 (pc2 := 18) (lv2 := [(5, .int (l5 + Int32.ofInt 1)), (4, .int l6), (3, .int l4), (1, .ref l1), (2, .int l2), (6, .int l6)]) (st2 := []) rfl <| zt_sub (z_fc rfl (z_fc rfl (z_fc rfl (z_fc rfl (z_fc rfl (z_fn)))))) <| hk18 l1 l2 l4 l6 (l5 + Int32.ofInt 1) h _ e
def fB_violations_58 (N : Nat) (k18 : Nat → Int32 → Int32 → Int32 → Int32 → zH → Option (Int32 × zH)) (l1 : Nat) (l2 : Int32) (l3 : Int32) (l4 : Int32) (l5 : Int32) (l6 : Int32) (h : zH) : Option (Int32 × zH) := cond (z_cmp .le l5 (Int32.ofInt 0)) (fB_violations_81 N k18 l1 l2 l4 l5 l6 h) (b2 (fW_order N l1 l4 l6 l1 l3 l4 h) fun x9 h10 => cond (z_cmp .le x9 (Int32.ofInt 0)) (fB_violations_81 N k18 l1 l2 l4 l5 l6 h10) (fB_violations_81 N k18 l1 (l2 + Int32.ofInt 1) l4 l5 l6 h10))
theorem sfB_violations_58 {xs : List Int32} (N : Nat) (k18 : Nat → Int32 → Int32 → Int32 → Int32 → zH → Option (Int32 × zH))  (hk18 : ∀ (l1 : Nat) (l2 : Int32) (l3 : Int32) (l4 : Int32) (l5 : Int32) (h : zH) (r : Int32 × zH), k18 l1 l2 l3 l4 l5 h = some r → zt xs (4) 133 18 [(1, .ref l1), (2, .int l2), (3, .int l3), (4, .int l4), (5, .int l5)] [] h 0 0 (zQ cI r)) (l1 : Nat) (l2 : Int32) (l3 : Int32) (l4 : Int32) (l5 : Int32) (l6 : Int32) (h : zH) (r : Int32 × zH) (e : fB_violations_58 N k18 l1 l2 l3 l4 l5 l6 h = some r) : zt xs (4) 133 58 [(1, .ref l1), (2, .int l2), (3, .int l3), (4, .int l4), (5, .int l5), (6, .int l6)] [] h 0 0 (zQ cI r) := by
  have hy := mfB_violations
  unfold fB_violations_58 at e
  exact zl hy 1 (pc2 := 60) (lv2 := [(1, .ref l1), (2, .int l2), (3, .int l3), (4, .int l4), (5, .int l5), (6, .int l6)]) (st2 := [.int l5]) rfl <| zx_c0 hy rfl e (fun _ e => zt_sub (z_fc rfl (z_fc rfl (z_fc rfl (z_fc rfl (z_fc rfl (z_fn)))))) <| sfB_violations_81 N k18 hk18 l1 l2 l4 l5 l6 h _ e) (fun _ e => zl hy 6 (pc2 := 72) (lv2 := [(1, .ref l1), (2, .int l2), (3, .int l3), (4, .int l4), (5, .int l5), (6, .int l6)]) (st2 := [.int l4, .int l3, .ref l1, .int l6, .int l4, .ref l1]) rfl <| zx_call hy (as := [.ref l1, .int l4, .int l6, .ref l1, .int l3, .int l4]) (rest := []) (ov := (fun v => some (.int v))) (fun _ => rfl) rfl rfl (Or.inl rfl) rfl rfl (Nat.le_of_ble_eq_true rfl) (Nat.le_of_ble_eq_true rfl) (fun _ e _ => z_rcvT (rfW_order N l1 l4 l6 l1 l3 l4 h _ e)) (fun _ e => zt_deep (Nat.le_of_ble_eq_true rfl) (sfW_order N l1 l4 l6 l1 l3 l4 h _ e)) e fun x9 h10 _ e => zx_c0 hy rfl e (fun _ e => zt_sub (z_fc rfl (z_fc rfl (z_fc rfl (z_fc rfl (z_fc rfl (z_fn)))))) <| sfB_violations_81 N k18 hk18 l1 l2 l4 l5 l6 h10 _ e) (fun _ e => zl hy 1 (pc2 := 81) (lv2 := [(2, .int (l2 + Int32.ofInt 1)), (1, .ref l1), (3, .int l3), (4, .int l4), (5, .int l5), (6, .int l6)]) (st2 := []) rfl <| zt_sub (z_fc rfl (z_fc rfl (z_fc rfl (z_fc rfl (z_fc rfl (z_fn)))))) <| sfB_violations_81 N k18 hk18 l1 (l2 + Int32.ofInt 1) l4 l5 l6 h10 _ e))
def fB_violations_18 (N : Nat) : Nat → Nat → Int32 → Int32 → Int32 → Int32 → zH → Option (Int32 × zH)
  | 0, _, _, _, _, _, _ => none
  | n + 1, l1, l2, l3, l4, l5, h => b1 (fI h l1 4 1) fun x3 => cond (z_cmp .ge l5 x3) (fB_violations_94 N  l1 l2 l3 l4 h) (b1 (fI h l1 4 1) fun x4 => cond (z_cmp .ge l4 x4) (fB_violations_94 N  l1 l2 l3 l4 h) (b2 (fW_lyndonEnd N l1 l4 h) fun x5 h6 => b2 (fW_isLyndonPart N l1 l4 x5 h6) fun x7 h8 => cond (z_cmp .ne x7 (Int32.ofInt 0)) (fB_violations_58 N (fB_violations_18 N n ) l1 l2 l3 l4 l5 x5 h8) (fB_violations_58 N (fB_violations_18 N n ) l1 (l2 + Int32.ofInt 1) l3 l4 l5 x5 h8)))
theorem sfB_violations_18 {xs : List Int32} (N : Nat)   : ∀ (n : Nat) (l1 : Nat) (l2 : Int32) (l3 : Int32) (l4 : Int32) (l5 : Int32) (h : zH) (r : Int32 × zH), fB_violations_18 N n  l1 l2 l3 l4 l5 h = some r → zt xs (4) 133 18 [(1, .ref l1), (2, .int l2), (3, .int l3), (4, .int l4), (5, .int l5)] [] h 0 0 (zQ cI r) := by
  have hy := mfB_violations
  intro n
  induction n with
  | zero =>
    intro l1 l2 l3 l4 l5 h r e
    rw [fB_violations_18] at e
    cases e
  | succ n ih =>
    intro l1 l2 l3 l4 l5 h r e
    rw [fB_violations_18] at e
    exact zl hy 2 (pc2 := 21) (lv2 := [(1, .ref l1), (2, .int l2), (3, .int l3), (4, .int l4), (5, .int l5)]) (st2 := [.ref l1, .int l5]) rfl <| zx_gI hy rfl e fun x3 _ e => zx_c hy rfl e (fun _ e => zt_sub (z_fc rfl (z_fc rfl (z_fc rfl (z_fc rfl (z_fn))))) <| sfB_violations_94 N   l1 l2 l3 l4 h _ e) (fun _ e => zl hy 2 (pc2 := 30) (lv2 := [(1, .ref l1), (2, .int l2), (3, .int l3), (4, .int l4), (5, .int l5)]) (st2 := [.ref l1, .int l4]) rfl <| zx_gI hy rfl e fun x4 _ e => zx_c hy rfl e (fun _ e => zt_sub (z_fc rfl (z_fc rfl (z_fc rfl (z_fc rfl (z_fn))))) <| sfB_violations_94 N   l1 l2 l3 l4 h _ e) (fun _ e => zl hy 2 (pc2 := 39) (lv2 := [(1, .ref l1), (2, .int l2), (3, .int l3), (4, .int l4), (5, .int l5)]) (st2 := [.int l4, .ref l1]) rfl <| zx_call hy (as := [.ref l1, .int l4]) (rest := []) (ov := (fun v => some (.int v))) (fun _ => rfl) rfl rfl (Or.inl rfl) rfl rfl (Nat.le_of_ble_eq_true rfl) (Nat.le_of_ble_eq_true rfl) (fun _ e _ => z_rcvT (rfW_lyndonEnd N l1 l4 h _ e)) (fun _ e => zt_deep (Nat.le_of_ble_eq_true rfl) (sfW_lyndonEnd N l1 l4 h _ e)) e fun x5 h6 _ e => zl hy 4 (pc2 := 49) (lv2 := [(6, .int x5), (1, .ref l1), (2, .int l2), (3, .int l3), (4, .int l4), (5, .int l5)]) (st2 := [.int x5, .int l4, .ref l1]) rfl <| zx_call hy (as := [.ref l1, .int l4, .int x5]) (rest := []) (ov := (fun v => some (.int v))) (fun _ => rfl) rfl rfl (Or.inl rfl) rfl rfl (Nat.le_of_ble_eq_true rfl) (Nat.le_of_ble_eq_true rfl) (fun _ e _ => z_rcvT (rfW_isLyndonPart N l1 l4 x5 h6 _ e)) (fun _ e => zt_deep (Nat.le_of_ble_eq_true rfl) (sfW_isLyndonPart N l1 l4 x5 h6 _ e)) e fun x7 h8 _ e => zx_c0 hy rfl e (fun _ e => zt_sub (z_fc rfl (z_fc rfl (z_fc rfl (z_fc rfl (z_fc rfl (z_fc rfl (z_fn))))))) <| sfB_violations_58 N (fB_violations_18 N n ) ih l1 l2 l3 l4 l5 x5 h8 _ e) (fun _ e => zl hy 1 (pc2 := 58) (lv2 := [(2, .int (l2 + Int32.ofInt 1)), (6, .int x5), (1, .ref l1), (3, .int l3), (4, .int l4), (5, .int l5)]) (st2 := []) rfl <| zt_sub (z_fc rfl (z_fc rfl (z_fc rfl (z_fc rfl (z_fc rfl (z_fc rfl (z_fn))))))) <| sfB_violations_58 N (fB_violations_18 N n ) ih l1 (l2 + Int32.ofInt 1) l3 l4 l5 x5 h8 _ e)))
def fB_violations (N : Nat) (l0 : Nat) (h : zH) : Option (Int32 × zH) := cond (fT h l0 0) (b1 (fR h l0 0 0) fun x1 => b1 (fR h x1 3 1) fun x2 => fB_violations_18 N N  x2 (Int32.ofInt 0) (Int32.ofInt 0) (Int32.ofInt 0) (Int32.ofInt 0) h) none
theorem sfB_violations {xs : List Int32} (N : Nat) (l0 : Nat) (h : zH) (r : Int32 × zH) (e : fB_violations N l0 h = some r) : zt xs (4) 133 0 [(0, .ref l0)] [] h 0 0 (zQ cI r) := by
  have hy := mfB_violations
  unfold fB_violations at e
  replace e := (cond_some e).2
  exact zl hy 1 (pc2 := 1) (lv2 := [(0, .ref l0)]) (st2 := [.ref l0]) rfl <| zx_gR hy rfl e fun x1 _ e => zx_gR hy rfl e fun x2 _ e => zl hy 9 (pc2 := 18) (lv2 := [(5, .int (Int32.ofInt 0)), (4, .int (Int32.ofInt 0)), (3, .int (Int32.ofInt 0)), (2, .int (Int32.ofInt 0)), (1, .ref x2), (0, .ref l0)]) (st2 := []) rfl <| zt_sub (z_fc rfl (z_fc rfl (z_fc rfl (z_fc rfl (z_fc rfl (z_fn)))))) <| sfB_violations_18 N   N x2 (Int32.ofInt 0) (Int32.ofInt 0) (Int32.ofInt 0) (Int32.ofInt 0) h _ e
theorem rfB_violations (N : Nat) (l0 : Nat) (h : zH) (r : Int32 × zH) (e : fB_violations N l0 h = some r) : fT h l0 0 = true := by
  unfold fB_violations at e
  exact (cond_some e).1
/-- LyndonBench.writeFactors()I -/
theorem mfB_writeFactors : z_me 134 zc_134 6 [] (some .int) := ⟨z_me0 rfl, rfl, rfl, rfl⟩
def fB_writeFactors_115 (N : Nat)  (l0 : Nat) (h : zH) : Option (Int32 × zH) := b1 (fR h l0 0 5) fun x7 => b1 (fI h x7 4 1) fun x8 => some (x8, h)
theorem sfB_writeFactors_115 {xs : List Int32} (N : Nat)   (l0 : Nat) (h : zH) (r : Int32 × zH) (e : fB_writeFactors_115 N  l0 h = some r) : zt xs (5) 134 115 [(0, .ref l0)] [] h 0 0 (zQ cI r) := by
  have hy := mfB_writeFactors
  unfold fB_writeFactors_115 at e
  exact zl hy 1 (pc2 := 116) (lv2 := [(0, .ref l0)]) (st2 := [.ref l0]) rfl <| zx_gR hy rfl e fun x7 _ e => zx_gI hy rfl e fun x8 _ e => zx_ret hy rfl rfl rfl rfl e
def fB_writeFactors_99 (N : Nat) (k19 : Nat → Nat → Int32 → Int32 → zH → Option (Int32 × zH)) (l0 : Nat) (l1 : Nat) (l2 : Int32) (l3 : Int32) (l4 : Int32) (l5 : Int32) (h : zH) : Option (Int32 × zH) := k19 l0 l1 (l2 + (l5 * (l4 - l2))) (l3 + Int32.ofInt 1) h
theorem sfB_writeFactors_99 {xs : List Int32} (N : Nat) (k19 : Nat → Nat → Int32 → Int32 → zH → Option (Int32 × zH))  (hk19 : ∀ (l0 : Nat) (l1 : Nat) (l2 : Int32) (l3 : Int32) (h : zH) (r : Int32 × zH), k19 l0 l1 l2 l3 h = some r → zt xs (5) 134 19 [(0, .ref l0), (1, .ref l1), (2, .int l2), (3, .int l3)] [] h 0 0 (zQ cI r)) (l0 : Nat) (l1 : Nat) (l2 : Int32) (l3 : Int32) (l4 : Int32) (l5 : Int32) (h : zH) (r : Int32 × zH) (e : fB_writeFactors_99 N k19 l0 l1 l2 l3 l4 l5 h = some r) : zt xs (5) 134 99 [(0, .ref l0), (1, .ref l1), (2, .int l2), (3, .int l3), (4, .int l4), (5, .int l5)] [] h 0 0 (zQ cI r) := by
  have hy := mfB_writeFactors
  unfold fB_writeFactors_99 at e
  exact zl hy 10 (pc2 := 19) (lv2 := [(3, .int (l3 + Int32.ofInt 1)), (2, .int (l2 + (l5 * (l4 - l2)))), (0, .ref l0), (1, .ref l1), (4, .int l4), (5, .int l5)]) (st2 := []) rfl <| zt_sub (z_fc rfl (z_fc rfl (z_fc rfl (z_fc rfl (z_fn))))) <| hk19 l0 l1 (l2 + (l5 * (l4 - l2))) (l3 + Int32.ofInt 1) h _ e
def fB_writeFactors_64 (N : Nat) (k19 : Nat → Nat → Int32 → Int32 → zH → Option (Int32 × zH)) (l0 : Nat) (l1 : Nat) (l2 : Int32) (l3 : Int32) (l4 : Int32) (l5 : Int32) (h : zH) : Option (Int32 × zH) := b1 (fR h l0 0 5) fun x12 => b2 (fW_addPart N x12 l1 l2 l4 h) fun _ h14 => cond (z_cmp .le l5 (Int32.ofInt 1)) (fB_writeFactors_99 N k19 l0 l1 l2 l3 l4 l5 h14) (b1 (fR h14 l0 0 5) fun x15 => b2 (fW_add N x15 (Int32.ofInt 94) h14) fun _ h17 => b1 (fR h17 l0 0 5) fun x18 => b2 (fW_addNumber N x18 l5 h17) fun _ h20 => fB_writeFactors_99 N k19 l0 l1 l2 l3 l4 l5 h20)
theorem sfB_writeFactors_64 {xs : List Int32} (N : Nat) (k19 : Nat → Nat → Int32 → Int32 → zH → Option (Int32 × zH))  (hk19 : ∀ (l0 : Nat) (l1 : Nat) (l2 : Int32) (l3 : Int32) (h : zH) (r : Int32 × zH), k19 l0 l1 l2 l3 h = some r → zt xs (5) 134 19 [(0, .ref l0), (1, .ref l1), (2, .int l2), (3, .int l3)] [] h 0 0 (zQ cI r)) (l0 : Nat) (l1 : Nat) (l2 : Int32) (l3 : Int32) (l4 : Int32) (l5 : Int32) (h : zH) (r : Int32 × zH) (e : fB_writeFactors_64 N k19 l0 l1 l2 l3 l4 l5 h = some r) : zt xs (5) 134 64 [(0, .ref l0), (1, .ref l1), (2, .int l2), (3, .int l3), (4, .int l4), (5, .int l5)] [] h 0 0 (zQ cI r) := by
  have hy := mfB_writeFactors
  unfold fB_writeFactors_64 at e
  exact zl hy 1 (pc2 := 65) (lv2 := [(0, .ref l0), (1, .ref l1), (2, .int l2), (3, .int l3), (4, .int l4), (5, .int l5)]) (st2 := [.ref l0]) rfl <| zx_gR hy rfl e fun x12 _ e => zl hy 3 (pc2 := 72) (lv2 := [(0, .ref l0), (1, .ref l1), (2, .int l2), (3, .int l3), (4, .int l4), (5, .int l5)]) (st2 := [.int l4, .int l2, .ref l1, .ref x12]) rfl <| zx_call hy (as := [.ref x12, .ref l1, .int l2, .int l4]) (rest := []) (ov := (fun _ => none)) (fun _ => rfl) rfl rfl (Or.inl rfl) rfl rfl (Nat.le_of_ble_eq_true rfl) (Nat.le_of_ble_eq_true rfl) (fun _ e _ => z_rcvT (rfW_addPart N x12 l1 l2 l4 h _ e)) (fun _ e => zt_deep (Nat.le_of_ble_eq_true rfl) (sfW_addPart N x12 l1 l2 l4 h _ e)) e fun _ h14 _ e => zl hy 2 (pc2 := 78) (lv2 := [(0, .ref l0), (1, .ref l1), (2, .int l2), (3, .int l3), (4, .int l4), (5, .int l5)]) (st2 := [.int (Int32.ofInt 1), .int l5]) rfl <| zx_c hy rfl e (fun _ e => zt_sub (z_fc rfl (z_fc rfl (z_fc rfl (z_fc rfl (z_fc rfl (z_fc rfl (z_fn))))))) <| sfB_writeFactors_99 N k19 hk19 l0 l1 l2 l3 l4 l5 h14 _ e) (fun _ e => zl hy 1 (pc2 := 82) (lv2 := [(0, .ref l0), (1, .ref l1), (2, .int l2), (3, .int l3), (4, .int l4), (5, .int l5)]) (st2 := [.ref l0]) rfl <| zx_gR hy rfl e fun x15 _ e => zx_bip hy (c := 94) rfl (by decide) <| zx_call hy (as := [.ref x15, .int (Int32.ofInt 94)]) (rest := []) (ov := (fun _ => none)) (fun _ => rfl) rfl rfl (Or.inl rfl) rfl rfl (Nat.le_of_ble_eq_true rfl) (Nat.le_of_ble_eq_true rfl) (fun _ e _ => z_rcvT (rfW_add N x15 (Int32.ofInt 94) h14 _ e)) (fun _ e => zt_deep (Nat.le_of_ble_eq_true rfl) (sfW_add N x15 (Int32.ofInt 94) h14 _ e)) e fun _ h17 _ e => zl hy 1 (pc2 := 91) (lv2 := [(0, .ref l0), (1, .ref l1), (2, .int l2), (3, .int l3), (4, .int l4), (5, .int l5)]) (st2 := [.ref l0]) rfl <| zx_gR hy rfl e fun x18 _ e => zl hy 1 (pc2 := 96) (lv2 := [(0, .ref l0), (1, .ref l1), (2, .int l2), (3, .int l3), (4, .int l4), (5, .int l5)]) (st2 := [.int l5, .ref x18]) rfl <| zx_call hy (as := [.ref x18, .int l5]) (rest := []) (ov := (fun _ => none)) (fun _ => rfl) rfl rfl (Or.inl rfl) rfl rfl (Nat.le_of_ble_eq_true rfl) (Nat.le_of_ble_eq_true rfl) (fun _ e _ => z_rcvT (rfW_addNumber N x18 l5 h17 _ e)) (fun _ e => zt_deep (Nat.le_of_ble_eq_true rfl) (sfW_addNumber N x18 l5 h17 _ e)) e fun _ h20 _ e => zt_sub (z_fc rfl (z_fc rfl (z_fc rfl (z_fc rfl (z_fc rfl (z_fc rfl (z_fn))))))) <| sfB_writeFactors_99 N k19 hk19 l0 l1 l2 l3 l4 l5 h20 _ e)
def fB_writeFactors_19 (N : Nat) : Nat → Nat → Nat → Int32 → Int32 → zH → Option (Int32 × zH)
  | 0, _, _, _, _, _ => none
  | n + 1, l0, l1, l2, l3, h => b1 (fI h l1 4 1) fun x6 => cond (z_cmp .ge l3 x6) (fB_writeFactors_115 N  l0 h) (b1 (fI h l1 4 1) fun x7 => cond (z_cmp .ge l2 x7) (fB_writeFactors_115 N  l0 h) (b2 (fW_lyndonEnd N l1 l2 h) fun x8 h9 => b2 (fW_countFactorsLike N l1 l2 x8 h9) fun x10 h11 => cond (z_cmp .le l2 (Int32.ofInt 0)) (fB_writeFactors_64 N (fB_writeFactors_19 N n ) l0 l1 l2 l3 x8 x10 h11) (b1 (fR h11 l0 0 5) fun x12 => b2 (fW_add N x12 (Int32.ofInt 124) h11) fun _ h14 => fB_writeFactors_64 N (fB_writeFactors_19 N n ) l0 l1 l2 l3 x8 x10 h14)))
theorem sfB_writeFactors_19 {xs : List Int32} (N : Nat)   : ∀ (n : Nat) (l0 : Nat) (l1 : Nat) (l2 : Int32) (l3 : Int32) (h : zH) (r : Int32 × zH), fB_writeFactors_19 N n  l0 l1 l2 l3 h = some r → zt xs (5) 134 19 [(0, .ref l0), (1, .ref l1), (2, .int l2), (3, .int l3)] [] h 0 0 (zQ cI r) := by
  have hy := mfB_writeFactors
  intro n
  induction n with
  | zero =>
    intro l0 l1 l2 l3 h r e
    rw [fB_writeFactors_19] at e
    cases e
  | succ n ih =>
    intro l0 l1 l2 l3 h r e
    rw [fB_writeFactors_19] at e
    exact zl hy 2 (pc2 := 21) (lv2 := [(0, .ref l0), (1, .ref l1), (2, .int l2), (3, .int l3)]) (st2 := [.ref l1, .int l3]) rfl <| zx_gI hy rfl e fun x6 _ e => zx_c hy rfl e (fun _ e => zt_sub (z_fc rfl (z_fn)) <| sfB_writeFactors_115 N   l0 h _ e) (fun _ e => zl hy 2 (pc2 := 29) (lv2 := [(0, .ref l0), (1, .ref l1), (2, .int l2), (3, .int l3)]) (st2 := [.ref l1, .int l2]) rfl <| zx_gI hy rfl e fun x7 _ e => zx_c hy rfl e (fun _ e => zt_sub (z_fc rfl (z_fn)) <| sfB_writeFactors_115 N   l0 h _ e) (fun _ e => zl hy 2 (pc2 := 37) (lv2 := [(0, .ref l0), (1, .ref l1), (2, .int l2), (3, .int l3)]) (st2 := [.int l2, .ref l1]) rfl <| zx_call hy (as := [.ref l1, .int l2]) (rest := []) (ov := (fun v => some (.int v))) (fun _ => rfl) rfl rfl (Or.inl rfl) rfl rfl (Nat.le_of_ble_eq_true rfl) (Nat.le_of_ble_eq_true rfl) (fun _ e _ => z_rcvT (rfW_lyndonEnd N l1 l2 h _ e)) (fun _ e => zt_deep (Nat.le_of_ble_eq_true rfl) (sfW_lyndonEnd N l1 l2 h _ e)) e fun x8 h9 _ e => zl hy 4 (pc2 := 46) (lv2 := [(4, .int x8), (0, .ref l0), (1, .ref l1), (2, .int l2), (3, .int l3)]) (st2 := [.int x8, .int l2, .ref l1]) rfl <| zx_call hy (as := [.ref l1, .int l2, .int x8]) (rest := []) (ov := (fun v => some (.int v))) (fun _ => rfl) rfl rfl (Or.inl rfl) rfl rfl (Nat.le_of_ble_eq_true rfl) (Nat.le_of_ble_eq_true rfl) (fun _ e _ => z_rcvT (rfW_countFactorsLike N l1 l2 x8 h9 _ e)) (fun _ e => zt_deep (Nat.le_of_ble_eq_true rfl) (sfW_countFactorsLike N l1 l2 x8 h9 _ e)) e fun x10 h11 _ e => zl hy 2 (pc2 := 52) (lv2 := [(5, .int x10), (4, .int x8), (0, .ref l0), (1, .ref l1), (2, .int l2), (3, .int l3)]) (st2 := [.int l2]) rfl <| zx_c0 hy rfl e (fun _ e => zt_sub (z_fc rfl (z_fc rfl (z_fc rfl (z_fc rfl (z_fc rfl (z_fc rfl (z_fn))))))) <| sfB_writeFactors_64 N (fB_writeFactors_19 N n ) ih l0 l1 l2 l3 x8 x10 h11 _ e) (fun _ e => zl hy 1 (pc2 := 56) (lv2 := [(5, .int x10), (4, .int x8), (0, .ref l0), (1, .ref l1), (2, .int l2), (3, .int l3)]) (st2 := [.ref l0]) rfl <| zx_gR hy rfl e fun x12 _ e => zx_bip hy (c := 124) rfl (by decide) <| zx_call hy (as := [.ref x12, .int (Int32.ofInt 124)]) (rest := []) (ov := (fun _ => none)) (fun _ => rfl) rfl rfl (Or.inl rfl) rfl rfl (Nat.le_of_ble_eq_true rfl) (Nat.le_of_ble_eq_true rfl) (fun _ e _ => z_rcvT (rfW_add N x12 (Int32.ofInt 124) h11 _ e)) (fun _ e => zt_deep (Nat.le_of_ble_eq_true rfl) (sfW_add N x12 (Int32.ofInt 124) h11 _ e)) e fun _ h14 _ e => zt_sub (z_fc rfl (z_fc rfl (z_fc rfl (z_fc rfl (z_fc rfl (z_fc rfl (z_fn))))))) <| sfB_writeFactors_64 N (fB_writeFactors_19 N n ) ih l0 l1 l2 l3 x8 x10 h14 _ e)))
def fB_writeFactors (N : Nat) (l0 : Nat) (h : zH) : Option (Int32 × zH) := cond (fT h l0 0) (b1 (fR h l0 0 0) fun x1 => b1 (fR h x1 3 1) fun x2 => b1 (fR h l0 0 5) fun x3 => b2 (fW_clear N x3 h) fun _ h5 => fB_writeFactors_19 N N  l0 x2 (Int32.ofInt 0) (Int32.ofInt 0) h5) none
theorem sfB_writeFactors {xs : List Int32} (N : Nat) (l0 : Nat) (h : zH) (r : Int32 × zH) (e : fB_writeFactors N l0 h = some r) : zt xs (5) 134 0 [(0, .ref l0)] [] h 0 0 (zQ cI r) := by
  have hy := mfB_writeFactors
  unfold fB_writeFactors at e
  replace e := (cond_some e).2
  exact zl hy 1 (pc2 := 1) (lv2 := [(0, .ref l0)]) (st2 := [.ref l0]) rfl <| zx_gR hy rfl e fun x1 _ e => zx_gR hy rfl e fun x2 _ e => zl hy 2 (pc2 := 9) (lv2 := [(1, .ref x2), (0, .ref l0)]) (st2 := [.ref l0]) rfl <| zx_gR hy rfl e fun x3 _ e => zx_call hy (as := [.ref x3]) (rest := []) (ov := (fun _ => none)) (fun _ => rfl) rfl rfl (Or.inl rfl) rfl rfl (Nat.le_of_ble_eq_true rfl) (Nat.le_of_ble_eq_true rfl) (fun _ e _ => z_rcvT (rfW_clear N x3 h _ e)) (fun _ e => zt_deep (Nat.le_of_ble_eq_true rfl) (sfW_clear N x3 h _ e)) e fun _ h5 _ e => zl hy 4 (pc2 := 19) (lv2 := [(3, .int (Int32.ofInt 0)), (2, .int (Int32.ofInt 0)), (1, .ref x2), (0, .ref l0)]) (st2 := []) rfl <| zt_sub (z_fc rfl (z_fc rfl (z_fc rfl (z_fc rfl (z_fn))))) <| sfB_writeFactors_19 N   N l0 x2 (Int32.ofInt 0) (Int32.ofInt 0) h5 _ e
theorem rfB_writeFactors (N : Nat) (l0 : Nat) (h : zH) (r : Int32 × zH) (e : fB_writeFactors N l0 h = some r) : fT h l0 0 = true := by
  unfold fB_writeFactors at e
  exact (cond_some e).1
/-- LyndonBench.reportByte(I)I -/
theorem mfB_reportByte : z_me 135 zc_135 2 [] (some .int) := ⟨z_me0 rfl, rfl, rfl, rfl⟩
def fB_reportByte (N : Nat) (l0 : Nat) (l1 : Int32) (h : zH) : Option (Int32 × zH) := cond (fT h l0 0) (b1 (fR h l0 0 5) fun x1 => b2 (fW_at N x1 l1 h) fun x2 h3 => some (x2, h3)) none
theorem sfB_reportByte {xs : List Int32} (N : Nat) (l0 : Nat) (l1 : Int32) (h : zH) (r : Int32 × zH) (e : fB_reportByte N l0 l1 h = some r) : zt xs (2) 135 0 [(0, .ref l0), (1, .int l1)] [] h 0 0 (zQ cI r) := by
  have hy := mfB_reportByte
  unfold fB_reportByte at e
  replace e := (cond_some e).2
  exact zl hy 1 (pc2 := 1) (lv2 := [(0, .ref l0), (1, .int l1)]) (st2 := [.ref l0]) rfl <| zx_gR hy rfl e fun x1 _ e => zl hy 1 (pc2 := 5) (lv2 := [(0, .ref l0), (1, .int l1)]) (st2 := [.int l1, .ref x1]) rfl <| zx_call hy (as := [.ref x1, .int l1]) (rest := []) (ov := (fun v => some (.int v))) (fun _ => rfl) rfl rfl (Or.inl rfl) rfl rfl (Nat.le_of_ble_eq_true rfl) (Nat.le_of_ble_eq_true rfl) (fun _ e _ => z_rcvT (rfW_at N x1 l1 h _ e)) (fun _ e => zt_deep (Nat.le_of_ble_eq_true rfl) (sfW_at N x1 l1 h _ e)) e fun x2 h3 _ e => zx_ret hy rfl rfl rfl rfl e
theorem rfB_reportByte (N : Nat) (l0 : Nat) (l1 : Int32) (h : zH) (r : Int32 × zH) (e : fB_reportByte N l0 l1 h = some r) : fT h l0 0 = true := by
  unfold fB_reportByte at e
  exact (cond_some e).1
/-- LyndonBenchModel.thrown()I -/
theorem mfM_thrown : z_me 148 zc_148 1 [] (some .int) := ⟨z_me0 rfl, rfl, rfl, rfl⟩
def fM_thrown (N : Nat) (l0 : Nat) (h : zH) : Option (Int32 × zH) := cond (fT h l0 5) (b1 (fI h l0 5 17) fun x1 => some (x1, h)) none
theorem sfM_thrown {xs : List Int32} (N : Nat) (l0 : Nat) (h : zH) (r : Int32 × zH) (e : fM_thrown N l0 h = some r) : zt xs (1) 148 0 [(0, .ref l0)] [] h 0 0 (zQ cI r) := by
  have hy := mfM_thrown
  unfold fM_thrown at e
  replace e := (cond_some e).2
  exact zl hy 1 (pc2 := 1) (lv2 := [(0, .ref l0)]) (st2 := [.ref l0]) rfl <| zx_gI hy rfl e fun x1 _ e => zx_ret hy rfl rfl rfl rfl e
theorem rfM_thrown (N : Nat) (l0 : Nat) (h : zH) (r : Int32 × zH) (e : fM_thrown N l0 h = some r) : fT h l0 5 = true := by
  unfold fM_thrown at e
  exact (cond_some e).1
/-- LyndonBenchModel.in(III)Z -/
theorem mfM_in : z_me 149 zc_149 3 [] (some .boolean) := ⟨z_me0 rfl, rfl, rfl, rfl⟩
def fM_in_15 (N : Nat)  (s0 : Int32) (h : zH) : Option (Int32 × zH) := cond (decide (s0 = Int32.ofInt 0) || decide (s0 = Int32.ofInt 1)) (some (s0, h)) none
theorem sfM_in_15 {xs : List Int32} (N : Nat)   (s0 : Int32) (h : zH) (r : Int32 × zH) (e : fM_in_15 N  s0 h = some r) : zt xs (1) 149 15 [] [.int s0] h 0 0 (zQ cI r) := by
  have hy := mfM_in
  unfold fM_in_15 at e
  exact zx_retB hy rfl rfl e
def fM_in_14 (N : Nat)   (h : zH) : Option (Int32 × zH) := fM_in_15 N  (Int32.ofInt 0) h
theorem sfM_in_14 {xs : List Int32} (N : Nat)    (h : zH) (r : Int32 × zH) (e : fM_in_14 N   h = some r) : zt xs (1) 149 14 [] [] h 0 0 (zQ cI r) := by
  have hy := mfM_in
  unfold fM_in_14 at e
  exact zl hy 1 (pc2 := 15) (lv2 := []) (st2 := [.int (Int32.ofInt 0)]) rfl <| zt_sub (z_fn) <| sfM_in_15 N   (Int32.ofInt 0) h _ e
def fM_in (N : Nat) (l0 : Int32) (l1 : Int32) (l2 : Int32) (h : zH) : Option (Int32 × zH) := cond (z_cmp .lt l0 l1) (fM_in_14 N   h) (cond (z_cmp .gt l0 l2) (fM_in_14 N   h) (fM_in_15 N  (Int32.ofInt 1) h))
theorem sfM_in {xs : List Int32} (N : Nat) (l0 : Int32) (l1 : Int32) (l2 : Int32) (h : zH) (r : Int32 × zH) (e : fM_in N l0 l1 l2 h = some r) : zt xs (1) 149 0 [(0, .int l0), (1, .int l1), (2, .int l2)] [] h 0 0 (zQ cI r) := by
  have hy := mfM_in
  unfold fM_in at e
  exact zl hy 2 (pc2 := 2) (lv2 := [(0, .int l0), (1, .int l1), (2, .int l2)]) (st2 := [.int l1, .int l0]) rfl <| zx_c hy rfl e (fun _ e => zt_sub (z_fn) <| sfM_in_14 N    h _ e) (fun _ e => zl hy 2 (pc2 := 7) (lv2 := [(0, .int l0), (1, .int l1), (2, .int l2)]) (st2 := [.int l2, .int l0]) rfl <| zx_c hy rfl e (fun _ e => zt_sub (z_fn) <| sfM_in_14 N    h _ e) (fun _ e => zl hy 2 (pc2 := 15) (lv2 := [(0, .int l0), (1, .int l1), (2, .int l2)]) (st2 := [.int (Int32.ofInt 1)]) rfl <| zt_sub (z_fn) <| sfM_in_15 N   (Int32.ofInt 1) h _ e))
/-- LyndonBenchModel.throwsOne(Z)Z -/
theorem mfM_throwsOne : z_me 150 zc_150 2 [] (some .boolean) := ⟨z_me0 rfl, rfl, rfl, rfl⟩
def fM_throwsOne_10 (N : Nat)  (l1 : Int32) (s0 : Int32) (s1 : Nat) (h : zH) : Option (Int32 × zH) := b1 (fS h s1 5 17 (.int s0)) fun h1 => cond (decide (l1 = Int32.ofInt 0) || decide (l1 = Int32.ofInt 1)) (some (l1, h1)) none
theorem sfM_throwsOne_10 {xs : List Int32} (N : Nat)   (l1 : Int32) (s0 : Int32) (s1 : Nat) (h : zH) (r : Int32 × zH) (e : fM_throwsOne_10 N  l1 s0 s1 h = some r) : zt xs (1) 150 10 [(1, .int l1)] [.int s0, .ref s1] h 0 0 (zQ cI r) := by
  have hy := mfM_throwsOne
  unfold fM_throwsOne_10 at e
  exact zx_pf hy rfl e (rfl) fun h1 _ e => zl hy 1 (pc2 := 14) (lv2 := [(1, .int l1)]) (st2 := [.int l1]) rfl <| zx_retB hy rfl rfl e
def fM_throwsOne (N : Nat) (l0 : Nat) (l1 : Int32) (h : zH) : Option (Int32 × zH) := cond (fT h l0 5) (cond (z_cmp .eq l1 (Int32.ofInt 0)) (fM_throwsOne_10 N  l1 (Int32.ofInt 0) l0 h) (fM_throwsOne_10 N  l1 (Int32.ofInt 1) l0 h)) none
theorem sfM_throwsOne {xs : List Int32} (N : Nat) (l0 : Nat) (l1 : Int32) (h : zH) (r : Int32 × zH) (e : fM_throwsOne N l0 l1 h = some r) : zt xs (1) 150 0 [(0, .ref l0), (1, .int l1)] [] h 0 0 (zQ cI r) := by
  have hy := mfM_throwsOne
  unfold fM_throwsOne at e
  replace e := (cond_some e).2
  exact zl hy 2 (pc2 := 2) (lv2 := [(0, .ref l0), (1, .int l1)]) (st2 := [.int l1, .ref l0]) rfl <| zx_c0 hy rfl e (fun _ e => zl hy 1 (pc2 := 10) (lv2 := [(0, .ref l0), (1, .int l1)]) (st2 := [.int (Int32.ofInt 0), .ref l0]) rfl <| zt_sub (z_fc rfl (z_fn)) <| sfM_throwsOne_10 N   l1 (Int32.ofInt 0) l0 h _ e) (fun _ e => zl hy 2 (pc2 := 10) (lv2 := [(0, .ref l0), (1, .int l1)]) (st2 := [.int (Int32.ofInt 1), .ref l0]) rfl <| zt_sub (z_fc rfl (z_fn)) <| sfM_throwsOne_10 N   l1 (Int32.ofInt 1) l0 h _ e)
theorem rfM_throwsOne (N : Nat) (l0 : Nat) (l1 : Int32) (h : zH) (r : Int32 × zH) (e : fM_throwsOne N l0 l1 h = some r) : fT h l0 5 = true := by
  unfold fM_throwsOne at e
  exact (cond_some e).1
/-- LyndonBenchModel.throwsOne(ZZ)Z -/
theorem mfM_throwsOne2 : z_me 151 zc_151 3 [] (some .boolean) := ⟨z_me0 rfl, rfl, rfl, rfl⟩
def fM_throwsOne2_34 (N : Nat)  (s0 : Int32) (h : zH) : Option (Int32 × zH) := cond (decide (s0 = Int32.ofInt 0) || decide (s0 = Int32.ofInt 1)) (some (s0, h)) none
theorem sfM_throwsOne2_34 {xs : List Int32} (N : Nat)   (s0 : Int32) (h : zH) (r : Int32 × zH) (e : fM_throwsOne2_34 N  s0 h = some r) : zt xs (1) 151 34 [] [.int s0] h 0 0 (zQ cI r) := by
  have hy := mfM_throwsOne2
  unfold fM_throwsOne2_34 at e
  exact zx_retB hy rfl rfl e
def fM_throwsOne2_29 (N : Nat)   (h : zH) : Option (Int32 × zH) := fM_throwsOne2_34 N  (Int32.ofInt 1) h
theorem sfM_throwsOne2_29 {xs : List Int32} (N : Nat)    (h : zH) (r : Int32 × zH) (e : fM_throwsOne2_29 N   h = some r) : zt xs (1) 151 29 [] [] h 0 0 (zQ cI r) := by
  have hy := mfM_throwsOne2
  unfold fM_throwsOne2_29 at e
  exact zl hy 2 (pc2 := 34) (lv2 := []) (st2 := [.int (Int32.ofInt 1)]) rfl <| zt_sub (z_fn) <| sfM_throwsOne2_34 N   (Int32.ofInt 1) h _ e
def fM_throwsOne2_18 (N : Nat)  (l1 : Int32) (l2 : Int32) (s0 : Int32) (s1 : Nat) (h : zH) : Option (Int32 × zH) := b1 (fS h s1 5 17 (.int s0)) fun h1 => cond (z_cmp .ne l1 (Int32.ofInt 0)) (fM_throwsOne2_29 N   h1) (cond (z_cmp .eq l2 (Int32.ofInt 0)) (fM_throwsOne2_34 N  (Int32.ofInt 0) h1) (fM_throwsOne2_29 N   h1))
theorem sfM_throwsOne2_18 {xs : List Int32} (N : Nat)   (l1 : Int32) (l2 : Int32) (s0 : Int32) (s1 : Nat) (h : zH) (r : Int32 × zH) (e : fM_throwsOne2_18 N  l1 l2 s0 s1 h = some r) : zt xs (1) 151 18 [(1, .int l1), (2, .int l2)] [.int s0, .ref s1] h 0 0 (zQ cI r) := by
  have hy := mfM_throwsOne2
  unfold fM_throwsOne2_18 at e
  exact zx_pf hy rfl e (rfl) fun h1 _ e => zl hy 1 (pc2 := 22) (lv2 := [(1, .int l1), (2, .int l2)]) (st2 := [.int l1]) rfl <| zx_c0 hy rfl e (fun _ e => zt_sub (z_fn) <| sfM_throwsOne2_29 N    h1 _ e) (fun _ e => zl hy 1 (pc2 := 26) (lv2 := [(1, .int l1), (2, .int l2)]) (st2 := [.int l2]) rfl <| zx_c0 hy rfl e (fun _ e => zl hy 1 (pc2 := 34) (lv2 := [(1, .int l1), (2, .int l2)]) (st2 := [.int (Int32.ofInt 0)]) rfl <| zt_sub (z_fn) <| sfM_throwsOne2_34 N   (Int32.ofInt 0) h1 _ e) (fun _ e => zt_sub (z_fn) <| sfM_throwsOne2_29 N    h1 _ e))
def fM_throwsOne2 (N : Nat) (l0 : Nat) (l1 : Int32) (l2 : Int32) (h : zH) : Option (Int32 × zH) := cond (fT h l0 5) (cond (z_cmp .eq l1 (Int32.ofInt 0)) (cond (z_cmp .eq l2 (Int32.ofInt 0)) (fM_throwsOne2_18 N  l1 l2 (Int32.ofInt 0) l0 h) (fM_throwsOne2_18 N  l1 l2 (Int32.ofInt 2) l0 h)) (fM_throwsOne2_18 N  l1 l2 (Int32.ofInt 1) l0 h)) none
theorem sfM_throwsOne2 {xs : List Int32} (N : Nat) (l0 : Nat) (l1 : Int32) (l2 : Int32) (h : zH) (r : Int32 × zH) (e : fM_throwsOne2 N l0 l1 l2 h = some r) : zt xs (1) 151 0 [(0, .ref l0), (1, .int l1), (2, .int l2)] [] h 0 0 (zQ cI r) := by
  have hy := mfM_throwsOne2
  unfold fM_throwsOne2 at e
  replace e := (cond_some e).2
  exact zl hy 2 (pc2 := 2) (lv2 := [(0, .ref l0), (1, .int l1), (2, .int l2)]) (st2 := [.int l1, .ref l0]) rfl <| zx_c0 hy rfl e (fun _ e => zl hy 1 (pc2 := 10) (lv2 := [(0, .ref l0), (1, .int l1), (2, .int l2)]) (st2 := [.int l2, .ref l0]) rfl <| zx_c0 hy rfl e (fun _ e => zl hy 1 (pc2 := 18) (lv2 := [(0, .ref l0), (1, .int l1), (2, .int l2)]) (st2 := [.int (Int32.ofInt 0), .ref l0]) rfl <| zt_sub (z_fc rfl (z_fc rfl (z_fn))) <| sfM_throwsOne2_18 N   l1 l2 (Int32.ofInt 0) l0 h _ e) (fun _ e => zl hy 2 (pc2 := 18) (lv2 := [(0, .ref l0), (1, .int l1), (2, .int l2)]) (st2 := [.int (Int32.ofInt 2), .ref l0]) rfl <| zt_sub (z_fc rfl (z_fc rfl (z_fn))) <| sfM_throwsOne2_18 N   l1 l2 (Int32.ofInt 2) l0 h _ e)) (fun _ e => zl hy 2 (pc2 := 18) (lv2 := [(0, .ref l0), (1, .int l1), (2, .int l2)]) (st2 := [.int (Int32.ofInt 1), .ref l0]) rfl <| zt_sub (z_fc rfl (z_fc rfl (z_fn))) <| sfM_throwsOne2_18 N   l1 l2 (Int32.ofInt 1) l0 h _ e)
theorem rfM_throwsOne2 (N : Nat) (l0 : Nat) (l1 : Int32) (l2 : Int32) (h : zH) (r : Int32 × zH) (e : fM_throwsOne2 N l0 l1 l2 h = some r) : fT h l0 5 = true := by
  unfold fM_throwsOne2 at e
  exact (cond_some e).1
/-- LyndonBenchModel.isLetter(I)Z -/
theorem mfM_isLetter : z_me 152 zc_152 2 [] (some .boolean) := ⟨z_me0 rfl, rfl, rfl, rfl⟩
def fM_isLetter (N : Nat) (l0 : Nat) (l1 : Int32) (h : zH) : Option (Int32 × zH) := cond (fT h l0 5) (b1 (fR h l0 5 0) fun x1 => b1 (fAI h x1 100 (Int32.ofInt 0)) fun x2 => b2 (fM_in N l1 (Int32.ofInt 97) (((Int32.ofInt 97) + x2) - (Int32.ofInt 1)) h) fun x3 h4 => cond (decide (x3 = Int32.ofInt 0) || decide (x3 = Int32.ofInt 1)) (some (x3, h4)) none) none
theorem sfM_isLetter {xs : List Int32} (N : Nat) (l0 : Nat) (l1 : Int32) (h : zH) (r : Int32 × zH) (e : fM_isLetter N l0 l1 h = some r) : zt xs (2) 152 0 [(0, .ref l0), (1, .int l1)] [] h 0 0 (zQ cI r) := by
  have hy := mfM_isLetter
  unfold fM_isLetter at e
  replace e := (cond_some e).2
  exact zl hy 1 (pc2 := 1) (lv2 := [(0, .ref l0), (1, .int l1)]) (st2 := [.int l1]) rfl <| zx_bip hy (c := 97) rfl (by decide) <| zx_bip hy (c := 97) rfl (by decide) <| zl hy 1 (pc2 := 6) (lv2 := [(0, .ref l0), (1, .int l1)]) (st2 := [.ref l0, .int (Int32.ofInt 97), .int (Int32.ofInt 97), .int l1]) rfl <| zx_gR hy rfl e fun x1 _ e => zl hy 1 (pc2 := 10) (lv2 := [(0, .ref l0), (1, .int l1)]) (st2 := [.int (Int32.ofInt 0), .ref x1, .int (Int32.ofInt 97), .int (Int32.ofInt 97), .int l1]) rfl <| zx_aI hy (j := .iaload) (Or.inl ⟨rfl, rfl⟩) rfl e fun x2 _ e => zl hy 3 (pc2 := 14) (lv2 := [(0, .ref l0), (1, .int l1)]) (st2 := [.int (((Int32.ofInt 97) + x2) - (Int32.ofInt 1)), .int (Int32.ofInt 97), .int l1]) rfl <| zx_call hy (as := [.int l1, .int (Int32.ofInt 97), .int (((Int32.ofInt 97) + x2) - (Int32.ofInt 1))]) (rest := []) (ov := (fun v => some (.int v))) (fun _ => rfl) rfl rfl (Or.inr (Or.inl rfl)) rfl rfl (Nat.le_of_ble_eq_true rfl) (Nat.le_of_ble_eq_true rfl) (fun _ _ hz => absurd rfl hz) (fun _ e => zt_deep (Nat.le_of_ble_eq_true rfl) (sfM_in N l1 (Int32.ofInt 97) (((Int32.ofInt 97) + x2) - (Int32.ofInt 1)) h _ e)) e fun x3 h4 _ e => zx_retB hy rfl rfl e
theorem rfM_isLetter (N : Nat) (l0 : Nat) (l1 : Int32) (h : zH) (r : Int32 × zH) (e : fM_isLetter N l0 l1 h = some r) : fT h l0 5 = true := by
  unfold fM_isLetter at e
  exact (cond_some e).1
/-- LyndonBenchModel.isShelved(I)Z -/
theorem mfM_isShelved : z_me 153 zc_153 2 [] (some .boolean) := ⟨z_me0 rfl, rfl, rfl, rfl⟩
def fM_isShelved (N : Nat) (l0 : Nat) (l1 : Int32) (h : zH) : Option (Int32 × zH) := cond (fT h l0 5) (b1 (fR h l0 5 0) fun x1 => b1 (fAI h x1 100 (Int32.ofInt 2)) fun x2 => b2 (fM_in N l1 (Int32.ofInt 0) (x2 - (Int32.ofInt 1)) h) fun x3 h4 => cond (decide (x3 = Int32.ofInt 0) || decide (x3 = Int32.ofInt 1)) (some (x3, h4)) none) none
theorem sfM_isShelved {xs : List Int32} (N : Nat) (l0 : Nat) (l1 : Int32) (h : zH) (r : Int32 × zH) (e : fM_isShelved N l0 l1 h = some r) : zt xs (2) 153 0 [(0, .ref l0), (1, .int l1)] [] h 0 0 (zQ cI r) := by
  have hy := mfM_isShelved
  unfold fM_isShelved at e
  replace e := (cond_some e).2
  exact zl hy 3 (pc2 := 3) (lv2 := [(0, .ref l0), (1, .int l1)]) (st2 := [.ref l0, .int (Int32.ofInt 0), .int l1]) rfl <| zx_gR hy rfl e fun x1 _ e => zl hy 1 (pc2 := 7) (lv2 := [(0, .ref l0), (1, .int l1)]) (st2 := [.int (Int32.ofInt 2), .ref x1, .int (Int32.ofInt 0), .int l1]) rfl <| zx_aI hy (j := .iaload) (Or.inl ⟨rfl, rfl⟩) rfl e fun x2 _ e => zl hy 2 (pc2 := 10) (lv2 := [(0, .ref l0), (1, .int l1)]) (st2 := [.int (x2 - (Int32.ofInt 1)), .int (Int32.ofInt 0), .int l1]) rfl <| zx_call hy (as := [.int l1, .int (Int32.ofInt 0), .int (x2 - (Int32.ofInt 1))]) (rest := []) (ov := (fun v => some (.int v))) (fun _ => rfl) rfl rfl (Or.inr (Or.inl rfl)) rfl rfl (Nat.le_of_ble_eq_true rfl) (Nat.le_of_ble_eq_true rfl) (fun _ _ hz => absurd rfl hz) (fun _ e => zt_deep (Nat.le_of_ble_eq_true rfl) (sfM_in N l1 (Int32.ofInt 0) (x2 - (Int32.ofInt 1)) h _ e)) e fun x3 h4 _ e => zx_retB hy rfl rfl e
theorem rfM_isShelved (N : Nat) (l0 : Nat) (l1 : Int32) (h : zH) (r : Int32 × zH) (e : fM_isShelved N l0 l1 h = some r) : fT h l0 5 = true := by
  unfold fM_isShelved at e
  exact (cond_some e).1
/-- LyndonBenchModel.compares(IIII)I -/
theorem mfM_compares : z_me 154 zc_154 6 [] (some .int) := ⟨z_me0 rfl, rfl, rfl, rfl⟩
def fM_compares_63 (N : Nat)  (l2 : Int32) (l4 : Int32) (h : zH) : Option (Int32 × zH) := some ((l2 - l4), h)
theorem sfM_compares_63 {xs : List Int32} (N : Nat)   (l2 : Int32) (l4 : Int32) (h : zH) (r : Int32 × zH) (e : fM_compares_63 N  l2 l4 h = some r) : zt xs (1) 154 63 [(2, .int l2), (4, .int l4)] [] h 0 0 (zQ cI r) := by
  have hy := mfM_compares
  unfold fM_compares_63 at e
  exact zl hy 3 (pc2 := 67) (lv2 := [(2, .int l2), (4, .int l4)]) (st2 := [.int (l2 - l4)]) rfl <| zx_ret hy rfl rfl rfl rfl e
def fM_compares_3 (N : Nat) : Nat → Nat → Int32 → Int32 → Int32 → Int32 → Int32 → zH → Option (Int32 × zH)
  | 0, _, _, _, _, _, _, _ => none
  | n + 1, l0, l1, l2, l3, l4, l5, h => cond (z_cmp .ge l5 l2) (fM_compares_63 N  l2 l4 h) (cond (z_cmp .ge l5 l4) (fM_compares_63 N  l2 l4 h) (b1 (fR h l0 5 0) fun x1 => b1 (fAI h x1 100 (l1 + l5)) fun x2 => b1 (fR h l0 5 0) fun x3 => b1 (fAI h x3 100 (l3 + l5)) fun x4 => cond (z_cmp .eq x2 x4) (fM_compares_3 N n  l0 l1 l2 l3 l4 (l5 + Int32.ofInt 1) h) (b1 (fR h l0 5 0) fun x5 => b1 (fAI h x5 100 (l1 + l5)) fun x6 => b1 (fR h l0 5 0) fun x7 => b1 (fAI h x7 100 (l3 + l5)) fun x8 => some ((x6 - x8), h))))
theorem sfM_compares_3 {xs : List Int32} (N : Nat)   : ∀ (n : Nat) (l0 : Nat) (l1 : Int32) (l2 : Int32) (l3 : Int32) (l4 : Int32) (l5 : Int32) (h : zH) (r : Int32 × zH), fM_compares_3 N n  l0 l1 l2 l3 l4 l5 h = some r → zt xs (1) 154 3 [(0, .ref l0), (1, .int l1), (2, .int l2), (3, .int l3), (4, .int l4), (5, .int l5)] [] h 0 0 (zQ cI r) := by
  have hy := mfM_compares
  intro n
  induction n with
  | zero =>
    intro l0 l1 l2 l3 l4 l5 h r e
    rw [fM_compares_3] at e
    cases e
  | succ n ih =>
    intro l0 l1 l2 l3 l4 l5 h r e
    rw [fM_compares_3] at e
    exact zl hy 2 (pc2 := 6) (lv2 := [(0, .ref l0), (1, .int l1), (2, .int l2), (3, .int l3), (4, .int l4), (5, .int l5)]) (st2 := [.int l2, .int l5]) rfl <| zx_c hy rfl e (fun _ e => zt_sub (z_fc rfl (z_fc rfl (z_fn))) <| sfM_compares_63 N   l2 l4 h _ e) (fun _ e => zl hy 2 (pc2 := 13) (lv2 := [(0, .ref l0), (1, .int l1), (2, .int l2), (3, .int l3), (4, .int l4), (5, .int l5)]) (st2 := [.int l4, .int l5]) rfl <| zx_c hy rfl e (fun _ e => zt_sub (z_fc rfl (z_fc rfl (z_fn))) <| sfM_compares_63 N   l2 l4 h _ e) (fun _ e => zl hy 1 (pc2 := 17) (lv2 := [(0, .ref l0), (1, .int l1), (2, .int l2), (3, .int l3), (4, .int l4), (5, .int l5)]) (st2 := [.ref l0]) rfl <| zx_gR hy rfl e fun x1 _ e => zl hy 3 (pc2 := 24) (lv2 := [(0, .ref l0), (1, .int l1), (2, .int l2), (3, .int l3), (4, .int l4), (5, .int l5)]) (st2 := [.int (l1 + l5), .ref x1]) rfl <| zx_aI hy (j := .iaload) (Or.inl ⟨rfl, rfl⟩) rfl e fun x2 _ e => zl hy 1 (pc2 := 26) (lv2 := [(0, .ref l0), (1, .int l1), (2, .int l2), (3, .int l3), (4, .int l4), (5, .int l5)]) (st2 := [.ref l0, .int x2]) rfl <| zx_gR hy rfl e fun x3 _ e => zl hy 3 (pc2 := 33) (lv2 := [(0, .ref l0), (1, .int l1), (2, .int l2), (3, .int l3), (4, .int l4), (5, .int l5)]) (st2 := [.int (l3 + l5), .ref x3, .int x2]) rfl <| zx_aI hy (j := .iaload) (Or.inl ⟨rfl, rfl⟩) rfl e fun x4 _ e => zx_c hy rfl e (fun _ e => zl hy 2 (pc2 := 3) (lv2 := [(5, .int (l5 + Int32.ofInt 1)), (0, .ref l0), (1, .int l1), (2, .int l2), (3, .int l3), (4, .int l4)]) (st2 := []) rfl <| zt_sub (z_fc rfl (z_fc rfl (z_fc rfl (z_fc rfl (z_fc rfl (z_fc rfl (z_fn))))))) <| ih l0 l1 l2 l3 l4 (l5 + Int32.ofInt 1) h _ e) (fun _ e => zl hy 1 (pc2 := 38) (lv2 := [(0, .ref l0), (1, .int l1), (2, .int l2), (3, .int l3), (4, .int l4), (5, .int l5)]) (st2 := [.ref l0]) rfl <| zx_gR hy rfl e fun x5 _ e => zl hy 3 (pc2 := 45) (lv2 := [(0, .ref l0), (1, .int l1), (2, .int l2), (3, .int l3), (4, .int l4), (5, .int l5)]) (st2 := [.int (l1 + l5), .ref x5]) rfl <| zx_aI hy (j := .iaload) (Or.inl ⟨rfl, rfl⟩) rfl e fun x6 _ e => zl hy 1 (pc2 := 47) (lv2 := [(0, .ref l0), (1, .int l1), (2, .int l2), (3, .int l3), (4, .int l4), (5, .int l5)]) (st2 := [.ref l0, .int x6]) rfl <| zx_gR hy rfl e fun x7 _ e => zl hy 3 (pc2 := 54) (lv2 := [(0, .ref l0), (1, .int l1), (2, .int l2), (3, .int l3), (4, .int l4), (5, .int l5)]) (st2 := [.int (l3 + l5), .ref x7, .int x6]) rfl <| zx_aI hy (j := .iaload) (Or.inl ⟨rfl, rfl⟩) rfl e fun x8 _ e => zl hy 1 (pc2 := 56) (lv2 := [(0, .ref l0), (1, .int l1), (2, .int l2), (3, .int l3), (4, .int l4), (5, .int l5)]) (st2 := [.int (x6 - x8)]) rfl <| zx_ret hy rfl rfl rfl rfl e)))
def fM_compares (N : Nat) (l0 : Nat) (l1 : Int32) (l2 : Int32) (l3 : Int32) (l4 : Int32) (h : zH) : Option (Int32 × zH) := cond (fT h l0 5) (fM_compares_3 N N  l0 l1 l2 l3 l4 (Int32.ofInt 0) h) none
theorem sfM_compares {xs : List Int32} (N : Nat) (l0 : Nat) (l1 : Int32) (l2 : Int32) (l3 : Int32) (l4 : Int32) (h : zH) (r : Int32 × zH) (e : fM_compares N l0 l1 l2 l3 l4 h = some r) : zt xs (1) 154 0 [(0, .ref l0), (1, .int l1), (2, .int l2), (3, .int l3), (4, .int l4)] [] h 0 0 (zQ cI r) := by
  have hy := mfM_compares
  unfold fM_compares at e
  replace e := (cond_some e).2
  exact zl hy 2 (pc2 := 3) (lv2 := [(5, .int (Int32.ofInt 0)), (0, .ref l0), (1, .int l1), (2, .int l2), (3, .int l3), (4, .int l4)]) (st2 := []) rfl <| zt_sub (z_fc rfl (z_fc rfl (z_fc rfl (z_fc rfl (z_fc rfl (z_fc rfl (z_fn))))))) <| sfM_compares_3 N   N l0 l1 l2 l3 l4 (Int32.ofInt 0) h _ e
theorem rfM_compares (N : Nat) (l0 : Nat) (l1 : Int32) (l2 : Int32) (l3 : Int32) (l4 : Int32) (h : zH) (r : Int32 × zH) (e : fM_compares N l0 l1 l2 l3 l4 h = some r) : fT h l0 5 = true := by
  unfold fM_compares at e
  exact (cond_some e).1
/-- LyndonBenchModel.shelved(II)I -/
theorem mfM_shelved : z_me 155 zc_155 3 [] (some .int) := ⟨z_me0 rfl, rfl, rfl, rfl⟩
def fM_shelved (N : Nat) (l0 : Nat) (l1 : Int32) (l2 : Int32) (h : zH) : Option (Int32 × zH) := cond (fT h l0 5) (b1 (fR h l0 5 0) fun x1 => b1 (fAI h x1 100 ((Int32.ofInt 123) + l1)) fun x2 => b1 (fR h l0 5 0) fun x3 => b1 (fAI h x3 100 ((Int32.ofInt 123) + l2)) fun x4 => b2 (fM_compares N l0 ((Int32.ofInt 131) + ((Int32.ofInt 40) * l1)) x2 ((Int32.ofInt 131) + ((Int32.ofInt 40) * l2)) x4 h) fun x5 h6 => some (x5, h6)) none
theorem sfM_shelved {xs : List Int32} (N : Nat) (l0 : Nat) (l1 : Int32) (l2 : Int32) (h : zH) (r : Int32 × zH) (e : fM_shelved N l0 l1 l2 h = some r) : zt xs (2) 155 0 [(0, .ref l0), (1, .int l1), (2, .int l2)] [] h 0 0 (zQ cI r) := by
  have hy := mfM_shelved
  unfold fM_shelved at e
  replace e := (cond_some e).2
  exact zl hy 1 (pc2 := 1) (lv2 := [(0, .ref l0), (1, .int l1), (2, .int l2)]) (st2 := [.ref l0]) rfl <| zx_sip hy (c := 131) rfl (by decide) <| zx_bip hy (c := 40) rfl (by decide) <| zl hy 4 (pc2 := 10) (lv2 := [(0, .ref l0), (1, .int l1), (2, .int l2)]) (st2 := [.ref l0, .int ((Int32.ofInt 131) + ((Int32.ofInt 40) * l1)), .ref l0]) rfl <| zx_gR hy rfl e fun x1 _ e => zx_bip hy (c := 123) rfl (by decide) <| zl hy 2 (pc2 := 17) (lv2 := [(0, .ref l0), (1, .int l1), (2, .int l2)]) (st2 := [.int ((Int32.ofInt 123) + l1), .ref x1, .int ((Int32.ofInt 131) + ((Int32.ofInt 40) * l1)), .ref l0]) rfl <| zx_aI hy (j := .iaload) (Or.inl ⟨rfl, rfl⟩) rfl e fun x2 _ e => zx_sip hy (c := 131) rfl (by decide) <| zx_bip hy (c := 40) rfl (by decide) <| zl hy 4 (pc2 := 27) (lv2 := [(0, .ref l0), (1, .int l1), (2, .int l2)]) (st2 := [.ref l0, .int ((Int32.ofInt 131) + ((Int32.ofInt 40) * l2)), .int x2, .int ((Int32.ofInt 131) + ((Int32.ofInt 40) * l1)), .ref l0]) rfl <| zx_gR hy rfl e fun x3 _ e => zx_bip hy (c := 123) rfl (by decide) <| zl hy 2 (pc2 := 34) (lv2 := [(0, .ref l0), (1, .int l1), (2, .int l2)]) (st2 := [.int ((Int32.ofInt 123) + l2), .ref x3, .int ((Int32.ofInt 131) + ((Int32.ofInt 40) * l2)), .int x2, .int ((Int32.ofInt 131) + ((Int32.ofInt 40) * l1)), .ref l0]) rfl <| zx_aI hy (j := .iaload) (Or.inl ⟨rfl, rfl⟩) rfl e fun x4 _ e => zx_call hy (as := [.ref l0, .int ((Int32.ofInt 131) + ((Int32.ofInt 40) * l1)), .int x2, .int ((Int32.ofInt 131) + ((Int32.ofInt 40) * l2)), .int x4]) (rest := []) (ov := (fun v => some (.int v))) (fun _ => rfl) rfl rfl (Or.inl rfl) rfl rfl (Nat.le_of_ble_eq_true rfl) (Nat.le_of_ble_eq_true rfl) (fun _ e _ => z_rcvT (rfM_compares N l0 ((Int32.ofInt 131) + ((Int32.ofInt 40) * l1)) x2 ((Int32.ofInt 131) + ((Int32.ofInt 40) * l2)) x4 h _ e)) (fun _ e => zt_deep (Nat.le_of_ble_eq_true rfl) (sfM_compares N l0 ((Int32.ofInt 131) + ((Int32.ofInt 40) * l1)) x2 ((Int32.ofInt 131) + ((Int32.ofInt 40) * l2)) x4 h _ e)) e fun x5 h6 _ e => zx_ret hy rfl rfl rfl rfl e
theorem rfM_shelved (N : Nat) (l0 : Nat) (l1 : Int32) (l2 : Int32) (h : zH) (r : Int32 × zH) (e : fM_shelved N l0 l1 l2 h = some r) : fT h l0 5 = true := by
  unfold fM_shelved at e
  exact (cond_some e).1
/-- LyndonBenchModel.loads()V -/
theorem mfM_loads : z_me 156 zc_156 2 [] none := ⟨z_me0 rfl, rfl, rfl, rfl⟩
def fM_loads_12 (N : Nat) : Nat → Nat → Int32 → zH → Option (Unit × zH)
  | 0, _, _, _ => none
  | n + 1, l0, l1, h => b1 (fI h l0 5 14) fun x4 => cond (z_cmp .ge l1 x4) (some ((), h)) (b1 (fR h l0 5 8) fun x5 => b1 (fR h l0 5 0) fun x6 => b1 (fAI h x6 100 ((Int32.ofInt 3) + l1)) fun x7 => b1 (fAS h x5 100 l1 (.int x7)) fun h8 => fM_loads_12 N n  l0 (l1 + Int32.ofInt 1) h8)
theorem sfM_loads_12 {xs : List Int32} (N : Nat)   : ∀ (n : Nat) (l0 : Nat) (l1 : Int32) (h : zH) (r : Unit × zH), fM_loads_12 N n  l0 l1 h = some r → zt xs (1) 156 12 [(0, .ref l0), (1, .int l1)] [] h 0 0 (zQ cV r) := by
  have hy := mfM_loads
  intro n
  induction n with
  | zero =>
    intro l0 l1 h r e
    rw [fM_loads_12] at e
    cases e
  | succ n ih =>
    intro l0 l1 h r e
    rw [fM_loads_12] at e
    exact zl hy 2 (pc2 := 14) (lv2 := [(0, .ref l0), (1, .int l1)]) (st2 := [.ref l0, .int l1]) rfl <| zx_gI hy rfl e fun x4 _ e => zx_c hy rfl e (fun _ e => zx_retV hy rfl rfl e) (fun _ e => zl hy 1 (pc2 := 21) (lv2 := [(0, .ref l0), (1, .int l1)]) (st2 := [.ref l0]) rfl <| zx_gR hy rfl e fun x5 _ e => zl hy 2 (pc2 := 26) (lv2 := [(0, .ref l0), (1, .int l1)]) (st2 := [.ref l0, .int l1, .ref x5]) rfl <| zx_gR hy rfl e fun x6 _ e => zl hy 3 (pc2 := 32) (lv2 := [(0, .ref l0), (1, .int l1)]) (st2 := [.int ((Int32.ofInt 3) + l1), .ref x6, .int l1, .ref x5]) rfl <| zx_aI hy (j := .iaload) (Or.inl ⟨rfl, rfl⟩) rfl e fun x7 _ e => zx_sI hy (j := .iastore) (Or.inl ⟨rfl, rfl, rfl⟩) rfl e fun h8 _ e => zl hy 2 (pc2 := 12) (lv2 := [(1, .int (l1 + Int32.ofInt 1)), (0, .ref l0)]) (st2 := []) rfl <| zt_sub (z_fc rfl (z_fc rfl (z_fn))) <| ih l0 (l1 + Int32.ofInt 1) h8 _ e)
def fM_loads (N : Nat) (l0 : Nat) (h : zH) : Option (Unit × zH) := cond (fT h l0 5) (b1 (fR h l0 5 0) fun x1 => b1 (fAI h x1 100 (Int32.ofInt 1)) fun x2 => b1 (fS h l0 5 14 (.int x2)) fun h3 => fM_loads_12 N N  l0 (Int32.ofInt 0) h3) none
theorem sfM_loads {xs : List Int32} (N : Nat) (l0 : Nat) (h : zH) (r : Unit × zH) (e : fM_loads N l0 h = some r) : zt xs (1) 156 0 [(0, .ref l0)] [] h 0 0 (zQ cV r) := by
  have hy := mfM_loads
  unfold fM_loads at e
  replace e := (cond_some e).2
  exact zl hy 2 (pc2 := 2) (lv2 := [(0, .ref l0)]) (st2 := [.ref l0, .ref l0]) rfl <| zx_gR hy rfl e fun x1 _ e => zl hy 1 (pc2 := 6) (lv2 := [(0, .ref l0)]) (st2 := [.int (Int32.ofInt 1), .ref x1, .ref l0]) rfl <| zx_aI hy (j := .iaload) (Or.inl ⟨rfl, rfl⟩) rfl e fun x2 _ e => zx_pf hy rfl e (rfl) fun h3 _ e => zl hy 2 (pc2 := 12) (lv2 := [(1, .int (Int32.ofInt 0)), (0, .ref l0)]) (st2 := []) rfl <| zt_sub (z_fc rfl (z_fc rfl (z_fn))) <| sfM_loads_12 N   N l0 (Int32.ofInt 0) h3 _ e
theorem rfM_loads (N : Nat) (l0 : Nat) (h : zH) (r : Unit × zH) (e : fM_loads N l0 h = some r) : fT h l0 5 = true := by
  unfold fM_loads at e
  exact (cond_some e).1
/-- LyndonBenchModel.adds(I)V -/
theorem mfM_adds : z_me 157 zc_157 2 [] none := ⟨z_me0 rfl, rfl, rfl, rfl⟩
def fM_adds (N : Nat) (l0 : Nat) (l1 : Int32) (h : zH) : Option (Unit × zH) := cond (fT h l0 5) (b1 (fR h l0 5 8) fun x1 => b1 (fI h l0 5 14) fun x2 => b1 (fAS h x1 100 x2 (.int l1)) fun h3 => b1 (fI h3 l0 5 14) fun x4 => b1 (fS h3 l0 5 14 (.int (x4 + (Int32.ofInt 1)))) fun h5 => some ((), h5)) none
theorem sfM_adds {xs : List Int32} (N : Nat) (l0 : Nat) (l1 : Int32) (h : zH) (r : Unit × zH) (e : fM_adds N l0 l1 h = some r) : zt xs (1) 157 0 [(0, .ref l0), (1, .int l1)] [] h 0 0 (zQ cV r) := by
  have hy := mfM_adds
  unfold fM_adds at e
  replace e := (cond_some e).2
  exact zl hy 1 (pc2 := 1) (lv2 := [(0, .ref l0), (1, .int l1)]) (st2 := [.ref l0]) rfl <| zx_gR hy rfl e fun x1 _ e => zl hy 1 (pc2 := 5) (lv2 := [(0, .ref l0), (1, .int l1)]) (st2 := [.ref l0, .ref x1]) rfl <| zx_gI hy rfl e fun x2 _ e => zl hy 1 (pc2 := 9) (lv2 := [(0, .ref l0), (1, .int l1)]) (st2 := [.int l1, .int x2, .ref x1]) rfl <| zx_sI hy (j := .iastore) (Or.inl ⟨rfl, rfl, rfl⟩) rfl e fun h3 _ e => zl hy 2 (pc2 := 12) (lv2 := [(0, .ref l0), (1, .int l1)]) (st2 := [.ref l0, .ref l0]) rfl <| zx_gI hy rfl e fun x4 _ e => zl hy 2 (pc2 := 17) (lv2 := [(0, .ref l0), (1, .int l1)]) (st2 := [.int (x4 + (Int32.ofInt 1)), .ref l0]) rfl <| zx_pf hy rfl e (rfl) fun h5 _ e => zx_retV hy rfl rfl e
theorem rfM_adds (N : Nat) (l0 : Nat) (l1 : Int32) (h : zH) (r : Unit × zH) (e : fM_adds N l0 l1 h = some r) : fT h l0 5 = true := by
  unfold fM_adds at e
  exact (cond_some e).1
/-- LyndonBenchModel.loadsRotated(I)V -/
theorem mfM_loadsRotated : z_me 158 zc_158 3 [] none := ⟨z_me0 rfl, rfl, rfl, rfl⟩
def fM_loadsRotated_12 (N : Nat) : Nat → Nat → Int32 → Int32 → zH → Option (Unit × zH)
  | 0, _, _, _, _ => none
  | n + 1, l0, l1, l2, h => b1 (fI h l0 5 14) fun x4 => cond (z_cmp .ge l2 x4) (some ((), h)) (b1 (fR h l0 5 8) fun x5 => b1 (fR h l0 5 0) fun x6 => b1 (fI h l0 5 14) fun x7 => (if x7 = Int32.ofInt 0 then none else b1 (fAI h x6 100 ((Int32.ofInt 3) + ((l2 + l1) - (l2 + l1) / x7 * x7))) fun x9 => b1 (fAS h x5 100 l2 (.int x9)) fun h10 => fM_loadsRotated_12 N n  l0 l1 (l2 + Int32.ofInt 1) h10))
theorem sfM_loadsRotated_12 {xs : List Int32} (N : Nat)   : ∀ (n : Nat) (l0 : Nat) (l1 : Int32) (l2 : Int32) (h : zH) (r : Unit × zH), fM_loadsRotated_12 N n  l0 l1 l2 h = some r → zt xs (1) 158 12 [(0, .ref l0), (1, .int l1), (2, .int l2)] [] h 0 0 (zQ cV r) := by
  have hy := mfM_loadsRotated
  intro n
  induction n with
  | zero =>
    intro l0 l1 l2 h r e
    rw [fM_loadsRotated_12] at e
    cases e
  | succ n ih =>
    intro l0 l1 l2 h r e
    rw [fM_loadsRotated_12] at e
    exact zl hy 2 (pc2 := 14) (lv2 := [(0, .ref l0), (1, .int l1), (2, .int l2)]) (st2 := [.ref l0, .int l2]) rfl <| zx_gI hy rfl e fun x4 _ e => zx_c hy rfl e (fun _ e => zx_retV hy rfl rfl e) (fun _ e => zl hy 1 (pc2 := 21) (lv2 := [(0, .ref l0), (1, .int l1), (2, .int l2)]) (st2 := [.ref l0]) rfl <| zx_gR hy rfl e fun x5 _ e => zl hy 2 (pc2 := 26) (lv2 := [(0, .ref l0), (1, .int l1), (2, .int l2)]) (st2 := [.ref l0, .int l2, .ref x5]) rfl <| zx_gR hy rfl e fun x6 _ e => zl hy 5 (pc2 := 34) (lv2 := [(0, .ref l0), (1, .int l1), (2, .int l2)]) (st2 := [.ref l0, .int (l2 + l1), .int (Int32.ofInt 3), .ref x6, .int l2, .ref x5]) rfl <| zx_gI hy rfl e fun x7 _ e => zx_rem hy (G := fun _ => b1 (fAI h x6 100 ((Int32.ofInt 3) + ((l2 + l1) - (l2 + l1) / x7 * x7))) fun x9 => b1 (fAS h x5 100 l2 (.int x9)) fun h10 => fM_loadsRotated_12 N n  l0 l1 (l2 + Int32.ofInt 1) h10) rfl e fun _ e => zl hy 1 (pc2 := 39) (lv2 := [(0, .ref l0), (1, .int l1), (2, .int l2)]) (st2 := [.int ((Int32.ofInt 3) + ((l2 + l1) - (l2 + l1) / x7 * x7)), .ref x6, .int l2, .ref x5]) rfl <| zx_aI hy (j := .iaload) (Or.inl ⟨rfl, rfl⟩) rfl e fun x9 _ e => zx_sI hy (j := .iastore) (Or.inl ⟨rfl, rfl, rfl⟩) rfl e fun h10 _ e => zl hy 2 (pc2 := 12) (lv2 := [(2, .int (l2 + Int32.ofInt 1)), (0, .ref l0), (1, .int l1)]) (st2 := []) rfl <| zt_sub (z_fc rfl (z_fc rfl (z_fc rfl (z_fn)))) <| ih l0 l1 (l2 + Int32.ofInt 1) h10 _ e)
def fM_loadsRotated (N : Nat) (l0 : Nat) (l1 : Int32) (h : zH) : Option (Unit × zH) := cond (fT h l0 5) (b1 (fR h l0 5 0) fun x1 => b1 (fAI h x1 100 (Int32.ofInt 1)) fun x2 => b1 (fS h l0 5 14 (.int x2)) fun h3 => fM_loadsRotated_12 N N  l0 l1 (Int32.ofInt 0) h3) none
theorem sfM_loadsRotated {xs : List Int32} (N : Nat) (l0 : Nat) (l1 : Int32) (h : zH) (r : Unit × zH) (e : fM_loadsRotated N l0 l1 h = some r) : zt xs (1) 158 0 [(0, .ref l0), (1, .int l1)] [] h 0 0 (zQ cV r) := by
  have hy := mfM_loadsRotated
  unfold fM_loadsRotated at e
  replace e := (cond_some e).2
  exact zl hy 2 (pc2 := 2) (lv2 := [(0, .ref l0), (1, .int l1)]) (st2 := [.ref l0, .ref l0]) rfl <| zx_gR hy rfl e fun x1 _ e => zl hy 1 (pc2 := 6) (lv2 := [(0, .ref l0), (1, .int l1)]) (st2 := [.int (Int32.ofInt 1), .ref x1, .ref l0]) rfl <| zx_aI hy (j := .iaload) (Or.inl ⟨rfl, rfl⟩) rfl e fun x2 _ e => zx_pf hy rfl e (rfl) fun h3 _ e => zl hy 2 (pc2 := 12) (lv2 := [(2, .int (Int32.ofInt 0)), (0, .ref l0), (1, .int l1)]) (st2 := []) rfl <| zt_sub (z_fc rfl (z_fc rfl (z_fc rfl (z_fn)))) <| sfM_loadsRotated_12 N   N l0 l1 (Int32.ofInt 0) h3 _ e
theorem rfM_loadsRotated (N : Nat) (l0 : Nat) (l1 : Int32) (h : zH) (r : Unit × zH) (e : fM_loadsRotated N l0 l1 h = some r) : fT h l0 5 = true := by
  unfold fM_loadsRotated at e
  exact (cond_some e).1
