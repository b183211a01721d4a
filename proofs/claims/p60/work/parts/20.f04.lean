section
/-! F functions, by program. -/
/-- LyndonBench.isLyndon()Z -/
theorem mfB_isLyndon : z_me 112 zc_112 1 [] (some .boolean) := ⟨z_me0 rfl, rfl, rfl, rfl⟩
def fB_isLyndon (N : Nat) (l0 : Nat) (h : zH) : Option (Int32 × zH) := cond (fT h l0 0) (b1 (fR h l0 0 0) fun x1 => b1 (fR h x1 3 1) fun x2 => b2 (fW_isOneFactor N x2 h) fun x3 h4 => cond (decide (x3 = Int32.ofInt 0) || decide (x3 = Int32.ofInt 1)) (some (x3, h4)) none) none
theorem sfB_isLyndon {xs : List Int32} (N : Nat) (l0 : Nat) (h : zH) (r : Int32 × zH) (e : fB_isLyndon N l0 h = some r) : zt xs (4) 112 0 [(0, .ref l0)] [] h 0 0 (zQ cI r) := by
  have hy := mfB_isLyndon
  unfold fB_isLyndon at e
  replace e := (cond_some e).2
  exact zl hy 1 (pc2 := 1) (lv2 := [(0, .ref l0)]) (st2 := [.ref l0]) rfl <| zx_gR hy rfl e fun x1 _ e => zx_gR hy rfl e fun x2 _ e => zx_call hy (as := [.ref x2]) (rest := []) (ov := (fun v => some (.int v))) (fun _ => rfl) rfl rfl (Or.inl rfl) rfl rfl (Nat.le_of_ble_eq_true rfl) (Nat.le_of_ble_eq_true rfl) (fun _ e _ => z_rcvT (rfW_isOneFactor N x2 h _ e)) (fun _ e => zt_deep (Nat.le_of_ble_eq_true rfl) (sfW_isOneFactor N x2 h _ e)) e fun x3 h4 _ e => zx_retB hy rfl rfl e
theorem rfB_isLyndon (N : Nat) (l0 : Nat) (h : zH) (r : Int32 × zH) (e : fB_isLyndon N l0 h = some r) : fT h l0 0 = true := by
  unfold fB_isLyndon at e
  exact (cond_some e).1
/-- LyndonBench.whyNotLyndon()I -/
theorem mfB_whyNotLyndon : z_me 113 zc_113 1 [] (some .int) := ⟨z_me0 rfl, rfl, rfl, rfl⟩
abbrev zC_113_58 : List zE := [(58, .ireturn, 1, 0, 0)]
theorem mfB_whyNotLyndon_58 : z_me 113 zC_113_58 1 [] (some .int) := ⟨z_me1 (cd := zc_113) rfl (by decide +kernel), rfl, rfl, rfl⟩
abbrev zC_113_m : List zE := [(0, .aload_n 0, 1, 0, 0), (1, .getfield 12, 3, 0, 0), (4, .getfield 52, 3, 3, 1), (7, .getfield 70, 3, 4, 1), (10, .ifCond .ne 5, 3, 15, 0), (13, .iconst 1, 1, 0, 0), (14, .ireturn, 1, 0, 0), (15, .aload_n 0, 1, 0, 0), (16, .getfield 12, 3, 0, 0), (19, .getfield 52, 3, 3, 1), (22, .invokevirtual 253, 3, 71, 0), (25, .aload_n 0, 1, 0, 0), (26, .getfield 12, 3, 0, 0), (29, .getfield 52, 3, 3, 1), (32, .getfield 70, 3, 4, 1), (35, .if_icmp .ge 5, 3, 40, 0), (38, .iconst 2, 1, 0, 0), (39, .ireturn, 1, 0, 0), (40, .aload_n 0, 1, 0, 0), (41, .getfield 12, 3, 0, 0), (44, .getfield 52, 3, 3, 1), (47, .invokevirtual 156, 3, 72, 0), (50, .ifCond .ne 7, 3, 57, 0), (53, .iconst 0, 1, 0, 0), (54, .goto 4, 3, 58, 0), (57, .iconst 3, 1, 0, 0)]
theorem mfB_whyNotLyndon_m : z_me 113 zC_113_m 1 [] (some .int) := ⟨z_me1 (cd := zc_113) rfl (by decide +kernel), rfl, rfl, rfl⟩
def fB_whyNotLyndon_58 (N : Nat)  (s0 : Int32) (h : zH) : Option (Int32 × zH) := some (s0, h)
theorem sfB_whyNotLyndon_58 {xs : List Int32} (N : Nat)   (s0 : Int32) (h : zH) (r : Int32 × zH) (e : fB_whyNotLyndon_58 N  s0 h = some r) : zt xs (5) 113 58 [] [.int s0] h 0 0 (zQ cI r) := by
  have hy := mfB_whyNotLyndon_58
  unfold fB_whyNotLyndon_58 at e
  exact zx_ret hy rfl rfl rfl rfl e
def fB_whyNotLyndon (N : Nat) (l0 : Nat) (h : zH) : Option (Int32 × zH) := cond (fT h l0 0) (b1 (fR h l0 0 0) fun x1 => b1 (fR h x1 3 1) fun x2 => b1 (fI h x2 4 1) fun x3 => cond (z_cmp .ne x3 (Int32.ofInt 0)) (b1 (fR h l0 0 0) fun x4 => b1 (fR h x4 3 1) fun x5 => b2 (fW_countTurns N x5 h) fun x6 h7 => b1 (fR h7 l0 0 0) fun x8 => b1 (fR h7 x8 3 1) fun x9 => b1 (fI h7 x9 4 1) fun x10 => cond (z_cmp .ge x6 x10) (b1 (fR h7 l0 0 0) fun x11 => b1 (fR h7 x11 3 1) fun x12 => b2 (fW_leastTurn N x12 h7) fun x13 h14 => cond (z_cmp .ne x13 (Int32.ofInt 0)) (fB_whyNotLyndon_58 N  (Int32.ofInt 3) h14) (fB_whyNotLyndon_58 N  (Int32.ofInt 0) h14)) (some ((Int32.ofInt 2), h7))) (some ((Int32.ofInt 1), h))) none
theorem sfB_whyNotLyndon {xs : List Int32} (N : Nat) (l0 : Nat) (h : zH) (r : Int32 × zH) (e : fB_whyNotLyndon N l0 h = some r) : zt xs (5) 113 0 [(0, .ref l0)] [] h 0 0 (zQ cI r) := by
  have hy := mfB_whyNotLyndon_m
  unfold fB_whyNotLyndon at e
  replace e := (cond_some e).2
  exact zl hy 1 (pc2 := 1) (lv2 := [(0, .ref l0)]) (st2 := [.ref l0]) rfl <| zx_gR hy rfl e fun x1 _ e => zx_gR hy rfl e fun x2 _ e => zx_gI hy rfl e fun x3 _ e => zx_c0 hy rfl e (fun _ e => zl hy 1 (pc2 := 16) (lv2 := [(0, .ref l0)]) (st2 := [.ref l0]) rfl <| zx_gR hy rfl e fun x4 _ e => zx_gR hy rfl e fun x5 _ e => zx_call hy (as := [.ref x5]) (rest := []) (ov := (fun v => some (.int v))) (fun _ => rfl) rfl rfl (Or.inl rfl) rfl rfl (Nat.le_of_ble_eq_true rfl) (Nat.le_of_ble_eq_true rfl) (fun _ e _ => z_rcvT (rfW_countTurns N x5 h _ e)) (fun _ e => zt_deep (Nat.le_of_ble_eq_true rfl) (sfW_countTurns N x5 h _ e)) e fun x6 h7 _ e => zl hy 1 (pc2 := 26) (lv2 := [(0, .ref l0)]) (st2 := [.ref l0, .int x6]) rfl <| zx_gR hy rfl e fun x8 _ e => zx_gR hy rfl e fun x9 _ e => zx_gI hy rfl e fun x10 _ e => zx_c hy rfl e (fun _ e => zl hy 1 (pc2 := 41) (lv2 := [(0, .ref l0)]) (st2 := [.ref l0]) rfl <| zx_gR hy rfl e fun x11 _ e => zx_gR hy rfl e fun x12 _ e => zx_call hy (as := [.ref x12]) (rest := []) (ov := (fun v => some (.int v))) (fun _ => rfl) rfl rfl (Or.inl rfl) rfl rfl (Nat.le_of_ble_eq_true rfl) (Nat.le_of_ble_eq_true rfl) (fun _ e _ => z_rcvT (rfW_leastTurn N x12 h7 _ e)) (fun _ e => zt_deep (Nat.le_of_ble_eq_true rfl) (sfW_leastTurn N x12 h7 _ e)) e fun x13 h14 _ e => zx_c0 hy rfl e (fun _ e => zl hy 1 (pc2 := 58) (lv2 := [(0, .ref l0)]) (st2 := [.int (Int32.ofInt 3)]) rfl <| zt_sub (z_fn) <| sfB_whyNotLyndon_58 N   (Int32.ofInt 3) h14 _ e) (fun _ e => zl hy 2 (pc2 := 58) (lv2 := [(0, .ref l0)]) (st2 := [.int (Int32.ofInt 0)]) rfl <| zt_sub (z_fn) <| sfB_whyNotLyndon_58 N   (Int32.ofInt 0) h14 _ e)) (fun _ e => zl hy 1 (pc2 := 39) (lv2 := [(0, .ref l0)]) (st2 := [.int (Int32.ofInt 2)]) rfl <| zx_ret hy rfl rfl rfl rfl e)) (fun _ e => zl hy 1 (pc2 := 14) (lv2 := [(0, .ref l0)]) (st2 := [.int (Int32.ofInt 1)]) rfl <| zx_ret hy rfl rfl rfl rfl e)
theorem rfB_whyNotLyndon (N : Nat) (l0 : Nat) (h : zH) (r : Int32 × zH) (e : fB_whyNotLyndon N l0 h = some r) : fT h l0 0 = true := by
  unfold fB_whyNotLyndon at e
  exact (cond_some e).1
/-- LyndonBench.isNecklace()Z -/
theorem mfB_isNecklace : z_me 114 zc_114 1 [] (some .boolean) := ⟨z_me0 rfl, rfl, rfl, rfl⟩
def fB_isNecklace_31 (N : Nat)  (s0 : Int32) (h : zH) : Option (Int32 × zH) := cond (decide (s0 = Int32.ofInt 0) || decide (s0 = Int32.ofInt 1)) (some (s0, h)) none
theorem sfB_isNecklace_31 {xs : List Int32} (N : Nat)   (s0 : Int32) (h : zH) (r : Int32 × zH) (e : fB_isNecklace_31 N  s0 h = some r) : zt xs (4) 114 31 [] [.int s0] h 0 0 (zQ cI r) := by
  have hy := mfB_isNecklace
  unfold fB_isNecklace_31 at e
  exact zx_retB hy rfl rfl e
def fB_isNecklace_30 (N : Nat)   (h : zH) : Option (Int32 × zH) := fB_isNecklace_31 N  (Int32.ofInt 0) h
theorem sfB_isNecklace_30 {xs : List Int32} (N : Nat)    (h : zH) (r : Int32 × zH) (e : fB_isNecklace_30 N   h = some r) : zt xs (4) 114 30 [] [] h 0 0 (zQ cI r) := by
  have hy := mfB_isNecklace
  unfold fB_isNecklace_30 at e
  exact zl hy 1 (pc2 := 31) (lv2 := []) (st2 := [.int (Int32.ofInt 0)]) rfl <| zt_sub (z_fn) <| sfB_isNecklace_31 N   (Int32.ofInt 0) h _ e
def fB_isNecklace (N : Nat) (l0 : Nat) (h : zH) : Option (Int32 × zH) := cond (fT h l0 0) (b1 (fR h l0 0 0) fun x1 => b1 (fR h x1 3 1) fun x2 => b1 (fI h x2 4 1) fun x3 => cond (z_cmp .le x3 (Int32.ofInt 0)) (fB_isNecklace_30 N   h) (b1 (fR h l0 0 0) fun x4 => b1 (fR h x4 3 1) fun x5 => b2 (fW_leastTurn N x5 h) fun x6 h7 => cond (z_cmp .ne x6 (Int32.ofInt 0)) (fB_isNecklace_30 N   h7) (fB_isNecklace_31 N  (Int32.ofInt 1) h7))) none
theorem sfB_isNecklace {xs : List Int32} (N : Nat) (l0 : Nat) (h : zH) (r : Int32 × zH) (e : fB_isNecklace N l0 h = some r) : zt xs (4) 114 0 [(0, .ref l0)] [] h 0 0 (zQ cI r) := by
  have hy := mfB_isNecklace
  unfold fB_isNecklace at e
  replace e := (cond_some e).2
  exact zl hy 1 (pc2 := 1) (lv2 := [(0, .ref l0)]) (st2 := [.ref l0]) rfl <| zx_gR hy rfl e fun x1 _ e => zx_gR hy rfl e fun x2 _ e => zx_gI hy rfl e fun x3 _ e => zx_c0 hy rfl e (fun _ e => zt_sub (z_fn) <| sfB_isNecklace_30 N    h _ e) (fun _ e => zl hy 1 (pc2 := 14) (lv2 := [(0, .ref l0)]) (st2 := [.ref l0]) rfl <| zx_gR hy rfl e fun x4 _ e => zx_gR hy rfl e fun x5 _ e => zx_call hy (as := [.ref x5]) (rest := []) (ov := (fun v => some (.int v))) (fun _ => rfl) rfl rfl (Or.inl rfl) rfl rfl (Nat.le_of_ble_eq_true rfl) (Nat.le_of_ble_eq_true rfl) (fun _ e _ => z_rcvT (rfW_leastTurn N x5 h _ e)) (fun _ e => zt_deep (Nat.le_of_ble_eq_true rfl) (sfW_leastTurn N x5 h _ e)) e fun x6 h7 _ e => zx_c0 hy rfl e (fun _ e => zt_sub (z_fn) <| sfB_isNecklace_30 N    h7 _ e) (fun _ e => zl hy 2 (pc2 := 31) (lv2 := [(0, .ref l0)]) (st2 := [.int (Int32.ofInt 1)]) rfl <| zt_sub (z_fn) <| sfB_isNecklace_31 N   (Int32.ofInt 1) h7 _ e))
theorem rfB_isNecklace (N : Nat) (l0 : Nat) (h : zH) (r : Int32 × zH) (e : fB_isNecklace N l0 h = some r) : fT h l0 0 = true := by
  unfold fB_isNecklace at e
  exact (cond_some e).1
/-- LyndonBench.isPrenecklace()Z -/
theorem mfB_isPrenecklace : z_me 115 zc_115 1 [] (some .boolean) := ⟨z_me0 rfl, rfl, rfl, rfl⟩
def fB_isPrenecklace (N : Nat) (l0 : Nat) (h : zH) : Option (Int32 × zH) := cond (fT h l0 0) (b1 (fR h l0 0 0) fun x1 => b1 (fR h x1 3 1) fun x2 => b2 (fW_beginsNecklace N x2 h) fun x3 h4 => cond (decide (x3 = Int32.ofInt 0) || decide (x3 = Int32.ofInt 1)) (some (x3, h4)) none) none
theorem sfB_isPrenecklace {xs : List Int32} (N : Nat) (l0 : Nat) (h : zH) (r : Int32 × zH) (e : fB_isPrenecklace N l0 h = some r) : zt xs (4) 115 0 [(0, .ref l0)] [] h 0 0 (zQ cI r) := by
  have hy := mfB_isPrenecklace
  unfold fB_isPrenecklace at e
  replace e := (cond_some e).2
  exact zl hy 1 (pc2 := 1) (lv2 := [(0, .ref l0)]) (st2 := [.ref l0]) rfl <| zx_gR hy rfl e fun x1 _ e => zx_gR hy rfl e fun x2 _ e => zx_call hy (as := [.ref x2]) (rest := []) (ov := (fun v => some (.int v))) (fun _ => rfl) rfl rfl (Or.inl rfl) rfl rfl (Nat.le_of_ble_eq_true rfl) (Nat.le_of_ble_eq_true rfl) (fun _ e _ => z_rcvT (rfW_beginsNecklace N x2 h _ e)) (fun _ e => zt_deep (Nat.le_of_ble_eq_true rfl) (sfW_beginsNecklace N x2 h _ e)) e fun x3 h4 _ e => zx_retB hy rfl rfl e
theorem rfB_isPrenecklace (N : Nat) (l0 : Nat) (h : zH) (r : Int32 × zH) (e : fB_isPrenecklace N l0 h = some r) : fT h l0 0 = true := by
  unfold fB_isPrenecklace at e
  exact (cond_some e).1
/-- LyndonBench.keepingLetter()I -/
theorem mfB_keepingLetter : z_me 116 zc_116 1 [] (some .int) := ⟨z_me0 rfl, rfl, rfl, rfl⟩
abbrev zC_116_m : List zE := [(0, .aload_n 0, 1, 0, 0), (1, .getfield 12, 3, 0, 0), (4, .getfield 52, 3, 3, 1), (7, .invokevirtual 256, 3, 68, 0), (10, .ifCond .ne 5, 3, 15, 0), (13, .iconst (-1), 1, 0, 0), (14, .ireturn, 1, 0, 0), (15, .aload_n 0, 1, 0, 0), (16, .getfield 12, 3, 0, 0), (19, .getfield 52, 3, 3, 1), (22, .aload_n 0, 1, 0, 0), (23, .getfield 12, 3, 0, 0), (26, .getfield 52, 3, 3, 1), (29, .getfield 70, 3, 4, 1), (32, .aload_n 0, 1, 0, 0), (33, .getfield 12, 3, 0, 0), (36, .getfield 52, 3, 3, 1), (39, .iconst 0, 1, 0, 0), (40, .invokevirtual 175, 3, 59, 1), (43, .isub, 1, 0, 0), (44, .invokevirtual 116, 3, 43, 1), (47, .ireturn, 1, 0, 0)]
theorem mfB_keepingLetter_m : z_me 116 zC_116_m 1 [] (some .int) := ⟨z_me1 (cd := zc_116) rfl (by decide +kernel), rfl, rfl, rfl⟩
def fB_keepingLetter (N : Nat) (l0 : Nat) (h : zH) : Option (Int32 × zH) := cond (fT h l0 0) (b1 (fR h l0 0 0) fun x1 => b1 (fR h x1 3 1) fun x2 => b2 (fW_beginsNecklace N x2 h) fun x3 h4 => cond (z_cmp .ne x3 (Int32.ofInt 0)) (b1 (fR h4 l0 0 0) fun x5 => b1 (fR h4 x5 3 1) fun x6 => b1 (fR h4 l0 0 0) fun x7 => b1 (fR h4 x7 3 1) fun x8 => b1 (fI h4 x8 4 1) fun x9 => b1 (fR h4 l0 0 0) fun x10 => b1 (fR h4 x10 3 1) fun x11 => b2 (fW_lyndonEnd N x11 (Int32.ofInt 0) h4) fun x12 h13 => b2 (fW_at N x6 (x9 - x12) h13) fun x14 h15 => some (x14, h15)) (some ((Int32.ofInt (-1)), h4))) none
theorem sfB_keepingLetter {xs : List Int32} (N : Nat) (l0 : Nat) (h : zH) (r : Int32 × zH) (e : fB_keepingLetter N l0 h = some r) : zt xs (4) 116 0 [(0, .ref l0)] [] h 0 0 (zQ cI r) := by
  have hy := mfB_keepingLetter_m
  unfold fB_keepingLetter at e
  replace e := (cond_some e).2
  exact zl hy 1 (pc2 := 1) (lv2 := [(0, .ref l0)]) (st2 := [.ref l0]) rfl <| zx_gR hy rfl e fun x1 _ e => zx_gR hy rfl e fun x2 _ e => zx_call hy (as := [.ref x2]) (rest := []) (ov := (fun v => some (.int v))) (fun _ => rfl) rfl rfl (Or.inl rfl) rfl rfl (Nat.le_of_ble_eq_true rfl) (Nat.le_of_ble_eq_true rfl) (fun _ e _ => z_rcvT (rfW_beginsNecklace N x2 h _ e)) (fun _ e => zt_deep (Nat.le_of_ble_eq_true rfl) (sfW_beginsNecklace N x2 h _ e)) e fun x3 h4 _ e => zx_c0 hy rfl e (fun _ e => zl hy 1 (pc2 := 16) (lv2 := [(0, .ref l0)]) (st2 := [.ref l0]) rfl <| zx_gR hy rfl e fun x5 _ e => zx_gR hy rfl e fun x6 _ e => zl hy 1 (pc2 := 23) (lv2 := [(0, .ref l0)]) (st2 := [.ref l0, .ref x6]) rfl <| zx_gR hy rfl e fun x7 _ e => zx_gR hy rfl e fun x8 _ e => zx_gI hy rfl e fun x9 _ e => zl hy 1 (pc2 := 33) (lv2 := [(0, .ref l0)]) (st2 := [.ref l0, .int x9, .ref x6]) rfl <| zx_gR hy rfl e fun x10 _ e => zx_gR hy rfl e fun x11 _ e => zl hy 1 (pc2 := 40) (lv2 := [(0, .ref l0)]) (st2 := [.int (Int32.ofInt 0), .ref x11, .int x9, .ref x6]) rfl <| zx_call hy (as := [.ref x11, .int (Int32.ofInt 0)]) (rest := [.int x9, .ref x6]) (ov := (fun v => some (.int v))) (fun _ => rfl) rfl rfl (Or.inl rfl) rfl rfl (Nat.le_of_ble_eq_true rfl) (Nat.le_of_ble_eq_true rfl) (fun _ e _ => z_rcvT (rfW_lyndonEnd N x11 (Int32.ofInt 0) h4 _ e)) (fun _ e => zt_deep (Nat.le_of_ble_eq_true rfl) (sfW_lyndonEnd N x11 (Int32.ofInt 0) h4 _ e)) e fun x12 h13 _ e => zl hy 1 (pc2 := 44) (lv2 := [(0, .ref l0)]) (st2 := [.int (x9 - x12), .ref x6]) rfl <| zx_call hy (as := [.ref x6, .int (x9 - x12)]) (rest := []) (ov := (fun v => some (.int v))) (fun _ => rfl) rfl rfl (Or.inl rfl) rfl rfl (Nat.le_of_ble_eq_true rfl) (Nat.le_of_ble_eq_true rfl) (fun _ e _ => z_rcvT (rfW_at N x6 (x9 - x12) h13 _ e)) (fun _ e => zt_deep (Nat.le_of_ble_eq_true rfl) (sfW_at N x6 (x9 - x12) h13 _ e)) e fun x14 h15 _ e => zx_ret hy rfl rfl rfl rfl e) (fun _ e => zl hy 1 (pc2 := 14) (lv2 := [(0, .ref l0)]) (st2 := [.int (Int32.ofInt (-1))]) rfl <| zx_ret hy rfl rfl rfl rfl e)
theorem rfB_keepingLetter (N : Nat) (l0 : Nat) (h : zH) (r : Int32 × zH) (e : fB_keepingLetter N l0 h = some r) : fT h l0 0 = true := by
  unfold fB_keepingLetter at e
  exact (cond_some e).1
/-- LyndonBench.leastRotation()I -/
theorem mfB_leastRotation : z_me 117 zc_117 1 [] (some .int) := ⟨z_me0 rfl, rfl, rfl, rfl⟩
def fB_leastRotation (N : Nat) (l0 : Nat) (h : zH) : Option (Int32 × zH) := cond (fT h l0 0) (b1 (fR h l0 0 0) fun x1 => b1 (fR h x1 3 1) fun x2 => b2 (fW_leastTurn N x2 h) fun x3 h4 => some (x3, h4)) none
theorem sfB_leastRotation {xs : List Int32} (N : Nat) (l0 : Nat) (h : zH) (r : Int32 × zH) (e : fB_leastRotation N l0 h = some r) : zt xs (4) 117 0 [(0, .ref l0)] [] h 0 0 (zQ cI r) := by
  have hy := mfB_leastRotation
  unfold fB_leastRotation at e
  replace e := (cond_some e).2
  exact zl hy 1 (pc2 := 1) (lv2 := [(0, .ref l0)]) (st2 := [.ref l0]) rfl <| zx_gR hy rfl e fun x1 _ e => zx_gR hy rfl e fun x2 _ e => zx_call hy (as := [.ref x2]) (rest := []) (ov := (fun v => some (.int v))) (fun _ => rfl) rfl rfl (Or.inl rfl) rfl rfl (Nat.le_of_ble_eq_true rfl) (Nat.le_of_ble_eq_true rfl) (fun _ e _ => z_rcvT (rfW_leastTurn N x2 h _ e)) (fun _ e => zt_deep (Nat.le_of_ble_eq_true rfl) (sfW_leastTurn N x2 h _ e)) e fun x3 h4 _ e => zx_ret hy rfl rfl rfl rfl e
theorem rfB_leastRotation (N : Nat) (l0 : Nat) (h : zH) (r : Int32 × zH) (e : fB_leastRotation N l0 h = some r) : fT h l0 0 = true := by
  unfold fB_leastRotation at e
  exact (cond_some e).1
/-- LyndonBench.rotationCount()I -/
theorem mfB_rotationCount : z_me 118 zc_118 1 [] (some .int) := ⟨z_me0 rfl, rfl, rfl, rfl⟩
def fB_rotationCount (N : Nat) (l0 : Nat) (h : zH) : Option (Int32 × zH) := cond (fT h l0 0) (b1 (fR h l0 0 0) fun x1 => b1 (fR h x1 3 1) fun x2 => b2 (fW_countTurns N x2 h) fun x3 h4 => some (x3, h4)) none
theorem sfB_rotationCount {xs : List Int32} (N : Nat) (l0 : Nat) (h : zH) (r : Int32 × zH) (e : fB_rotationCount N l0 h = some r) : zt xs (5) 118 0 [(0, .ref l0)] [] h 0 0 (zQ cI r) := by
  have hy := mfB_rotationCount
  unfold fB_rotationCount at e
  replace e := (cond_some e).2
  exact zl hy 1 (pc2 := 1) (lv2 := [(0, .ref l0)]) (st2 := [.ref l0]) rfl <| zx_gR hy rfl e fun x1 _ e => zx_gR hy rfl e fun x2 _ e => zx_call hy (as := [.ref x2]) (rest := []) (ov := (fun v => some (.int v))) (fun _ => rfl) rfl rfl (Or.inl rfl) rfl rfl (Nat.le_of_ble_eq_true rfl) (Nat.le_of_ble_eq_true rfl) (fun _ e _ => z_rcvT (rfW_countTurns N x2 h _ e)) (fun _ e => zt_deep (Nat.le_of_ble_eq_true rfl) (sfW_countTurns N x2 h _ e)) e fun x3 h4 _ e => zx_ret hy rfl rfl rfl rfl e
theorem rfB_rotationCount (N : Nat) (l0 : Nat) (h : zH) (r : Int32 × zH) (e : fB_rotationCount N l0 h = some r) : fT h l0 0 = true := by
  unfold fB_rotationCount at e
  exact (cond_some e).1
/-- LyndonBench.smallestPeriod()I -/
theorem mfB_smallestPeriod : z_me 119 zc_119 1 [] (some .int) := ⟨z_me0 rfl, rfl, rfl, rfl⟩
def fB_smallestPeriod (N : Nat) (l0 : Nat) (h : zH) : Option (Int32 × zH) := cond (fT h l0 0) (b1 (fR h l0 0 0) fun x1 => b1 (fR h x1 3 1) fun x2 => b2 (fW_leastPeriod N x2 h) fun x3 h4 => some (x3, h4)) none
theorem sfB_smallestPeriod {xs : List Int32} (N : Nat) (l0 : Nat) (h : zH) (r : Int32 × zH) (e : fB_smallestPeriod N l0 h = some r) : zt xs (4) 119 0 [(0, .ref l0)] [] h 0 0 (zQ cI r) := by
  have hy := mfB_smallestPeriod
  unfold fB_smallestPeriod at e
  replace e := (cond_some e).2
  exact zl hy 1 (pc2 := 1) (lv2 := [(0, .ref l0)]) (st2 := [.ref l0]) rfl <| zx_gR hy rfl e fun x1 _ e => zx_gR hy rfl e fun x2 _ e => zx_call hy (as := [.ref x2]) (rest := []) (ov := (fun v => some (.int v))) (fun _ => rfl) rfl rfl (Or.inl rfl) rfl rfl (Nat.le_of_ble_eq_true rfl) (Nat.le_of_ble_eq_true rfl) (fun _ e _ => z_rcvT (rfW_leastPeriod N x2 h _ e)) (fun _ e => zt_deep (Nat.le_of_ble_eq_true rfl) (sfW_leastPeriod N x2 h _ e)) e fun x3 h4 _ e => zx_ret hy rfl rfl rfl rfl e
theorem rfB_smallestPeriod (N : Nat) (l0 : Nat) (h : zH) (r : Int32 × zH) (e : fB_smallestPeriod N l0 h = some r) : fT h l0 0 = true := by
  unfold fB_smallestPeriod at e
  exact (cond_some e).1
/-- LyndonBench.longestBorder()I -/
theorem mfB_longestBorder : z_me 120 zc_120 1 [] (some .int) := ⟨z_me0 rfl, rfl, rfl, rfl⟩
def fB_longestBorder (N : Nat) (l0 : Nat) (h : zH) : Option (Int32 × zH) := cond (fT h l0 0) (b1 (fR h l0 0 0) fun x1 => b1 (fR h x1 3 1) fun x2 => b1 (fI h x2 4 1) fun x3 => b1 (fR h l0 0 0) fun x4 => b1 (fR h x4 3 1) fun x5 => b2 (fW_leastPeriod N x5 h) fun x6 h7 => some ((x3 - x6), h7)) none
theorem sfB_longestBorder {xs : List Int32} (N : Nat) (l0 : Nat) (h : zH) (r : Int32 × zH) (e : fB_longestBorder N l0 h = some r) : zt xs (4) 120 0 [(0, .ref l0)] [] h 0 0 (zQ cI r) := by
  have hy := mfB_longestBorder
  unfold fB_longestBorder at e
  replace e := (cond_some e).2
  exact zl hy 1 (pc2 := 1) (lv2 := [(0, .ref l0)]) (st2 := [.ref l0]) rfl <| zx_gR hy rfl e fun x1 _ e => zx_gR hy rfl e fun x2 _ e => zx_gI hy rfl e fun x3 _ e => zl hy 1 (pc2 := 11) (lv2 := [(0, .ref l0)]) (st2 := [.ref l0, .int x3]) rfl <| zx_gR hy rfl e fun x4 _ e => zx_gR hy rfl e fun x5 _ e => zx_call hy (as := [.ref x5]) (rest := [.int x3]) (ov := (fun v => some (.int v))) (fun _ => rfl) rfl rfl (Or.inl rfl) rfl rfl (Nat.le_of_ble_eq_true rfl) (Nat.le_of_ble_eq_true rfl) (fun _ e _ => z_rcvT (rfW_leastPeriod N x5 h _ e)) (fun _ e => zt_deep (Nat.le_of_ble_eq_true rfl) (sfW_leastPeriod N x5 h _ e)) e fun x6 h7 _ e => zl hy 1 (pc2 := 21) (lv2 := [(0, .ref l0)]) (st2 := [.int (x3 - x6)]) rfl <| zx_ret hy rfl rfl rfl rfl e
theorem rfB_longestBorder (N : Nat) (l0 : Nat) (h : zH) (r : Int32 × zH) (e : fB_longestBorder N l0 h = some r) : fT h l0 0 = true := by
  unfold fB_longestBorder at e
  exact (cond_some e).1
/-- LyndonBench.leastSuffix()I -/
theorem mfB_leastSuffix : z_me 121 zc_121 1 [] (some .int) := ⟨z_me0 rfl, rfl, rfl, rfl⟩
def fB_leastSuffix (N : Nat) (l0 : Nat) (h : zH) : Option (Int32 × zH) := cond (fT h l0 0) (b1 (fR h l0 0 0) fun x1 => b1 (fR h x1 3 1) fun x2 => b2 (fW_extremeEnding N x2 (Int32.ofInt (-1)) h) fun x3 h4 => some (x3, h4)) none
theorem sfB_leastSuffix {xs : List Int32} (N : Nat) (l0 : Nat) (h : zH) (r : Int32 × zH) (e : fB_leastSuffix N l0 h = some r) : zt xs (4) 121 0 [(0, .ref l0)] [] h 0 0 (zQ cI r) := by
  have hy := mfB_leastSuffix
  unfold fB_leastSuffix at e
  replace e := (cond_some e).2
  exact zl hy 1 (pc2 := 1) (lv2 := [(0, .ref l0)]) (st2 := [.ref l0]) rfl <| zx_gR hy rfl e fun x1 _ e => zx_gR hy rfl e fun x2 _ e => zl hy 1 (pc2 := 8) (lv2 := [(0, .ref l0)]) (st2 := [.int (Int32.ofInt (-1)), .ref x2]) rfl <| zx_call hy (as := [.ref x2, .int (Int32.ofInt (-1))]) (rest := []) (ov := (fun v => some (.int v))) (fun _ => rfl) rfl rfl (Or.inl rfl) rfl rfl (Nat.le_of_ble_eq_true rfl) (Nat.le_of_ble_eq_true rfl) (fun _ e _ => z_rcvT (rfW_extremeEnding N x2 (Int32.ofInt (-1)) h _ e)) (fun _ e => zt_deep (Nat.le_of_ble_eq_true rfl) (sfW_extremeEnding N x2 (Int32.ofInt (-1)) h _ e)) e fun x3 h4 _ e => zx_ret hy rfl rfl rfl rfl e
theorem rfB_leastSuffix (N : Nat) (l0 : Nat) (h : zH) (r : Int32 × zH) (e : fB_leastSuffix N l0 h = some r) : fT h l0 0 = true := by
  unfold fB_leastSuffix at e
  exact (cond_some e).1
/-- LyndonBench.greatestSuffix()I -/
theorem mfB_greatestSuffix : z_me 122 zc_122 1 [] (some .int) := ⟨z_me0 rfl, rfl, rfl, rfl⟩
def fB_greatestSuffix (N : Nat) (l0 : Nat) (h : zH) : Option (Int32 × zH) := cond (fT h l0 0) (b1 (fR h l0 0 0) fun x1 => b1 (fR h x1 3 1) fun x2 => b2 (fW_extremeEnding N x2 (Int32.ofInt 1) h) fun x3 h4 => some (x3, h4)) none
theorem sfB_greatestSuffix {xs : List Int32} (N : Nat) (l0 : Nat) (h : zH) (r : Int32 × zH) (e : fB_greatestSuffix N l0 h = some r) : zt xs (4) 122 0 [(0, .ref l0)] [] h 0 0 (zQ cI r) := by
  have hy := mfB_greatestSuffix
  unfold fB_greatestSuffix at e
  replace e := (cond_some e).2
  exact zl hy 1 (pc2 := 1) (lv2 := [(0, .ref l0)]) (st2 := [.ref l0]) rfl <| zx_gR hy rfl e fun x1 _ e => zx_gR hy rfl e fun x2 _ e => zl hy 1 (pc2 := 8) (lv2 := [(0, .ref l0)]) (st2 := [.int (Int32.ofInt 1), .ref x2]) rfl <| zx_call hy (as := [.ref x2, .int (Int32.ofInt 1)]) (rest := []) (ov := (fun v => some (.int v))) (fun _ => rfl) rfl rfl (Or.inl rfl) rfl rfl (Nat.le_of_ble_eq_true rfl) (Nat.le_of_ble_eq_true rfl) (fun _ e _ => z_rcvT (rfW_extremeEnding N x2 (Int32.ofInt 1) h _ e)) (fun _ e => zt_deep (Nat.le_of_ble_eq_true rfl) (sfW_extremeEnding N x2 (Int32.ofInt 1) h _ e)) e fun x3 h4 _ e => zx_ret hy rfl rfl rfl rfl e
theorem rfB_greatestSuffix (N : Nat) (l0 : Nat) (h : zH) (r : Int32 × zH) (e : fB_greatestSuffix N l0 h = some r) : fT h l0 0 = true := by
  unfold fB_greatestSuffix at e
  exact (cond_some e).1
/-- LyndonBench.checkCountedLength(I)V -/
theorem mfB_checkCountedLength : z_me 139 zc_139 2 [] none := ⟨z_me0 rfl, rfl, rfl, rfl⟩
def fB_checkCountedLength_11 (N : Nat)   (h : zH) : Option ((Unit ⊕ Nat) × zH) := some (Sum.inr 0, h)
theorem sfB_checkCountedLength_11 {xs : List Int32} (N : Nat)    (h : zH) (r : (Unit ⊕ Nat) × zH) (e : fB_checkCountedLength_11 N   h = some r) : zt xs (1) 139 11 [] [] h 0 0 (zQ (cX cV) r) := by
  have hy := mfB_checkCountedLength
  unfold fB_checkCountedLength_11 at e
  exact zx_thr hy rfl (Nat.le_of_ble_eq_true rfl) e
def fB_checkCountedLength (N : Nat) (l0 : Nat) (l1 : Int32) (h : zH) : Option ((Unit ⊕ Nat) × zH) := cond (fT h l0 0) (cond (z_cmp .lt l1 (Int32.ofInt 1)) (fB_checkCountedLength_11 N   h) (cond (z_cmp .le l1 (Int32.ofInt 18)) (some (Sum.inl (), h)) (fB_checkCountedLength_11 N   h))) none
theorem sfB_checkCountedLength {xs : List Int32} (N : Nat) (l0 : Nat) (l1 : Int32) (h : zH) (r : (Unit ⊕ Nat) × zH) (e : fB_checkCountedLength N l0 l1 h = some r) : zt xs (1) 139 0 [(0, .ref l0), (1, .int l1)] [] h 0 0 (zQ (cX cV) r) := by
  have hy := mfB_checkCountedLength
  unfold fB_checkCountedLength at e
  replace e := (cond_some e).2
  exact zl hy 2 (pc2 := 2) (lv2 := [(0, .ref l0), (1, .int l1)]) (st2 := [.int (Int32.ofInt 1), .int l1]) rfl <| zx_c hy rfl e (fun _ e => zt_sub (z_fn) <| sfB_checkCountedLength_11 N    h _ e) (fun _ e => zl hy 1 (pc2 := 6) (lv2 := [(0, .ref l0), (1, .int l1)]) (st2 := [.int l1]) rfl <| zx_bip hy (c := 18) rfl (by decide) <| zx_c hy rfl e (fun _ e => zx_retVX hy rfl rfl e) (fun _ e => zt_sub (z_fn) <| sfB_checkCountedLength_11 N    h _ e))
theorem rfB_checkCountedLength (N : Nat) (l0 : Nat) (l1 : Int32) (h : zH) (r : (Unit ⊕ Nat) × zH) (e : fB_checkCountedLength N l0 l1 h = some r) : fT h l0 0 = true := by
  unfold fB_checkCountedLength at e
  exact (cond_some e).1
/-- LyndonBench.power(II)J -/
theorem mfB_power : z_me 143 zc_143 5 [] (some .long) := ⟨z_me0 rfl, rfl, rfl, rfl⟩
def fB_power_5 (N : Nat) : Nat → Int32 → Int32 → Int64 → Int32 → zH → Option (Int64 × zH)
  | 0, _, _, _, _, _ => none
  | n + 1, l0, l1, l2, l4, h => cond (z_cmp .ge l4 l1) (some (l2, h)) (fB_power_5 N n  l0 l1 (l2 * (l0).toInt64) (l4 + Int32.ofInt 1) h)
theorem sfB_power_5 {xs : List Int32} (N : Nat)   : ∀ (n : Nat) (l0 : Int32) (l1 : Int32) (l2 : Int64) (l4 : Int32) (h : zH) (r : Int64 × zH), fB_power_5 N n  l0 l1 l2 l4 h = some r → zt xs (1) 143 5 [(0, .int l0), (1, .int l1), (2, .long l2), (4, .int l4)] [] h 0 0 (zQ cL r) := by
  have hy := mfB_power
  intro n
  induction n with
  | zero =>
    intro l0 l1 l2 l4 h r e
    rw [fB_power_5] at e
    cases e
  | succ n ih =>
    intro l0 l1 l2 l4 h r e
    rw [fB_power_5] at e
    exact zl hy 2 (pc2 := 8) (lv2 := [(0, .int l0), (1, .int l1), (2, .long l2), (4, .int l4)]) (st2 := [.int l1, .int l4]) rfl <| zx_c hy rfl e (fun _ e => zl hy 1 (pc2 := 23) (lv2 := [(0, .int l0), (1, .int l1), (2, .long l2), (4, .int l4)]) (st2 := [.long l2]) rfl <| zx_ret hy rfl rfl rfl rfl e) (fun _ e => zl hy 7 (pc2 := 5) (lv2 := [(4, .int (l4 + Int32.ofInt 1)), (2, .long (l2 * (l0).toInt64)), (0, .int l0), (1, .int l1)]) (st2 := []) rfl <| zt_sub (z_fc rfl (z_fc rfl (z_fc rfl (z_fc rfl (z_fn))))) <| ih l0 l1 (l2 * (l0).toInt64) (l4 + Int32.ofInt 1) h _ e)
def fB_power (N : Nat) (l0 : Int32) (l1 : Int32) (h : zH) : Option (Int64 × zH) := fB_power_5 N N  l0 l1 (Int64.ofNat 1) (Int32.ofInt 0) h
theorem sfB_power {xs : List Int32} (N : Nat) (l0 : Int32) (l1 : Int32) (h : zH) (r : Int64 × zH) (e : fB_power N l0 l1 h = some r) : zt xs (1) 143 0 [(0, .int l0), (1, .int l1)] [] h 0 0 (zQ cL r) := by
  have hy := mfB_power
  unfold fB_power at e
  exact zl hy 4 (pc2 := 5) (lv2 := [(4, .int (Int32.ofInt 0)), (2, .long (Int64.ofNat 1)), (0, .int l0), (1, .int l1)]) (st2 := []) rfl <| zt_sub (z_fc rfl (z_fc rfl (z_fc rfl (z_fc rfl (z_fn))))) <| sfB_power_5 N   N l0 l1 (Int64.ofNat 1) (Int32.ofInt 0) h _ e
/-- LyndonBench.weighPowers(II[I)J -/
theorem mfB_weighPowers : z_me 142 zc_142 6 [] (some .long) := ⟨z_me0 rfl, rfl, rfl, rfl⟩
abbrev zC_142_55 : List zE := [(55, .lload_n 3, 1, 0, 0), (56, .iload_n 1, 1, 0, 0), (57, .i2l, 1, 0, 0), (58, .ldiv, 1, 0, 0), (59, .lreturn, 1, 0, 0)]
theorem mfB_weighPowers_55 : z_me 142 zC_142_55 6 [] (some .long) := ⟨z_me1 (cd := zc_142) rfl (by decide +kernel), rfl, rfl, rfl⟩
abbrev zC_142_49 : List zE := [(49, .iinc 5 1, 3, 0, 0), (52, .goto (-40), 3, 12, 0)]
theorem mfB_weighPowers_49 : z_me 142 zC_142_49 6 [] (some .long) := ⟨z_me1 (cd := zc_142) rfl (by decide +kernel), rfl, rfl, rfl⟩
abbrev zC_142_12 : List zE := [(12, .iload 5, 2, 0, 0), (14, .iload_n 1, 1, 0, 0), (15, .if_icmp .gt 40, 3, 55, 0), (18, .iload 5, 2, 0, 0), (20, .aload_n 2, 1, 0, 0), (21, .arraylength, 1, 0, 0), (22, .if_icmp .ge 33, 3, 55, 0), (25, .iload_n 1, 1, 0, 0), (26, .iload 5, 2, 0, 0), (28, .irem, 1, 0, 0), (29, .ifCond .ne 20, 3, 49, 0), (32, .lload_n 3, 1, 0, 0), (33, .aload_n 2, 1, 0, 0), (34, .iload 5, 2, 0, 0), (36, .iaload, 1, 0, 0), (37, .i2l, 1, 0, 0), (38, .iload_n 0, 1, 0, 0), (39, .iload_n 1, 1, 0, 0), (40, .iload 5, 2, 0, 0), (42, .idiv, 1, 0, 0), (43, .invokestatic 310, 3, 143, 2), (46, .lmul, 1, 0, 0), (47, .ladd, 1, 0, 0), (48, .lstore_n 3, 1, 0, 0)]
theorem mfB_weighPowers_12 : z_me 142 zC_142_12 6 [] (some .long) := ⟨z_me1 (cd := zc_142) rfl (by decide +kernel), rfl, rfl, rfl⟩
abbrev zC_142_m : List zE := [(0, .iload_n 1, 1, 0, 0), (1, .iconst 1, 1, 0, 0), (2, .if_icmp .ge 5, 3, 7, 0), (5, .lconst 0, 1, 0, 0), (6, .lreturn, 1, 0, 0), (7, .lconst 0, 1, 0, 0), (8, .lstore_n 3, 1, 0, 0), (9, .iconst 1, 1, 0, 0), (10, .istore 5, 2, 0, 0)]
theorem mfB_weighPowers_m : z_me 142 zC_142_m 6 [] (some .long) := ⟨z_me1 (cd := zc_142) rfl (by decide +kernel), rfl, rfl, rfl⟩
def fB_weighPowers_55 (N : Nat)  (l1 : Int32) (l3 : Int64) (h : zH) : Option (Int64 × zH) := (if (l1).toInt64 = Int64.ofInt 0 then none else some ((l3 / (l1).toInt64), h))
theorem sfB_weighPowers_55 {xs : List Int32} (N : Nat)   (l1 : Int32) (l3 : Int64) (h : zH) (r : Int64 × zH) (e : fB_weighPowers_55 N  l1 l3 h = some r) : zt xs (2) 142 55 [(1, .int l1), (3, .long l3)] [] h 0 0 (zQ cL r) := by
  have hy := mfB_weighPowers_55
  unfold fB_weighPowers_55 at e
  exact zl hy 3 (pc2 := 58) (lv2 := [(1, .int l1), (3, .long l3)]) (st2 := [.long (l1).toInt64, .long l3]) rfl <| zx_ldv hy (G := fun _ => some ((l3 / (l1).toInt64), h)) rfl e fun _ e => zx_ret hy rfl rfl rfl rfl e
def fB_weighPowers_49 (N : Nat) (k12 : Int32 → Int32 → Nat → Int64 → Int32 → zH → Option (Int64 × zH)) (l0 : Int32) (l1 : Int32) (l2 : Nat) (l3 : Int64) (l5 : Int32) (h : zH) : Option (Int64 × zH) := k12 l0 l1 l2 l3 (l5 + Int32.ofInt 1) h
theorem sfB_weighPowers_49 {xs : List Int32} (N : Nat) (k12 : Int32 → Int32 → Nat → Int64 → Int32 → zH → Option (Int64 × zH))  (hk12 : ∀ (l0 : Int32) (l1 : Int32) (l2 : Nat) (l3 : Int64) (l5 : Int32) (h : zH) (r : Int64 × zH), k12 l0 l1 l2 l3 l5 h = some r → zt xs (2) 142 12 [(0, .int l0), (1, .int l1), (2, .ref l2), (3, .long l3), (5, .int l5)] [] h 0 0 (zQ cL r)) (l0 : Int32) (l1 : Int32) (l2 : Nat) (l3 : Int64) (l5 : Int32) (h : zH) (r : Int64 × zH) (e : fB_weighPowers_49 N k12 l0 l1 l2 l3 l5 h = some r) : zt xs (2) 142 49 [(0, .int l0), (1, .int l1), (2, .ref l2), (3, .long l3), (5, .int l5)] [] h 0 0 (zQ cL r) := by
  have hy := mfB_weighPowers_49
  unfold fB_weighPowers_49 at e
  exact zl hy 2 (pc2 := 12) (lv2 := [(5, .int (l5 + Int32.ofInt 1)), (0, .int l0), (1, .int l1), (2, .ref l2), (3, .long l3)]) (st2 := []) rfl <| zt_sub (z_fc rfl (z_fc rfl (z_fc rfl (z_fc rfl (z_fc rfl (z_fn)))))) <| hk12 l0 l1 l2 l3 (l5 + Int32.ofInt 1) h _ e
def fB_weighPowers_12 (N : Nat) : Nat → Int32 → Int32 → Nat → Int64 → Int32 → zH → Option (Int64 × zH)
  | 0, _, _, _, _, _, _ => none
  | n + 1, l0, l1, l2, l3, l5, h => cond (z_cmp .gt l5 l1) (fB_weighPowers_55 N  l1 l3 h) (b1 (fN h l2 100) fun x1 => cond (z_cmp .ge l5 x1) (fB_weighPowers_55 N  l1 l3 h) ((if l5 = Int32.ofInt 0 then none else cond (z_cmp .ne (l1 - l1 / l5 * l5) (Int32.ofInt 0)) (fB_weighPowers_49 N (fB_weighPowers_12 N n ) l0 l1 l2 l3 l5 h) (b1 (fAI h l2 100 l5) fun x3 => (if l5 = Int32.ofInt 0 then none else b2 (fB_power N l0 (l1 / l5) h) fun x5 h6 => fB_weighPowers_49 N (fB_weighPowers_12 N n ) l0 l1 l2 (l3 + ((x3).toInt64 * x5)) l5 h6)))))
theorem sfB_weighPowers_12 {xs : List Int32} (N : Nat)   : ∀ (n : Nat) (l0 : Int32) (l1 : Int32) (l2 : Nat) (l3 : Int64) (l5 : Int32) (h : zH) (r : Int64 × zH), fB_weighPowers_12 N n  l0 l1 l2 l3 l5 h = some r → zt xs (2) 142 12 [(0, .int l0), (1, .int l1), (2, .ref l2), (3, .long l3), (5, .int l5)] [] h 0 0 (zQ cL r) := by
  have hy := mfB_weighPowers_12
  intro n
  induction n with
  | zero =>
    intro l0 l1 l2 l3 l5 h r e
    rw [fB_weighPowers_12] at e
    cases e
  | succ n ih =>
    intro l0 l1 l2 l3 l5 h r e
    rw [fB_weighPowers_12] at e
    exact zl hy 2 (pc2 := 15) (lv2 := [(0, .int l0), (1, .int l1), (2, .ref l2), (3, .long l3), (5, .int l5)]) (st2 := [.int l1, .int l5]) rfl <| zx_c hy rfl e (fun _ e => zt_sub (z_fc rfl (z_fc rfl (z_fn))) <| sfB_weighPowers_55 N   l1 l3 h _ e) (fun _ e => zl hy 2 (pc2 := 21) (lv2 := [(0, .int l0), (1, .int l1), (2, .ref l2), (3, .long l3), (5, .int l5)]) (st2 := [.ref l2, .int l5]) rfl <| zx_len hy (Nat.le_of_ble_eq_true rfl) rfl e fun x1 _ e => zx_c hy rfl e (fun _ e => zt_sub (z_fc rfl (z_fc rfl (z_fn))) <| sfB_weighPowers_55 N   l1 l3 h _ e) (fun _ e => zl hy 2 (pc2 := 28) (lv2 := [(0, .int l0), (1, .int l1), (2, .ref l2), (3, .long l3), (5, .int l5)]) (st2 := [.int l5, .int l1]) rfl <| zx_rem hy (G := fun _ => cond (z_cmp .ne (l1 - l1 / l5 * l5) (Int32.ofInt 0)) (fB_weighPowers_49 N (fB_weighPowers_12 N n ) l0 l1 l2 l3 l5 h) (b1 (fAI h l2 100 l5) fun x3 => (if l5 = Int32.ofInt 0 then none else b2 (fB_power N l0 (l1 / l5) h) fun x5 h6 => fB_weighPowers_49 N (fB_weighPowers_12 N n ) l0 l1 l2 (l3 + ((x3).toInt64 * x5)) l5 h6))) rfl e fun _ e => zx_c0 hy rfl e (fun _ e => zt_sub (z_fc rfl (z_fc rfl (z_fc rfl (z_fc rfl (z_fc rfl (z_fn)))))) <| sfB_weighPowers_49 N (fB_weighPowers_12 N n ) ih l0 l1 l2 l3 l5 h _ e) (fun _ e => zl hy 3 (pc2 := 36) (lv2 := [(0, .int l0), (1, .int l1), (2, .ref l2), (3, .long l3), (5, .int l5)]) (st2 := [.int l5, .ref l2, .long l3]) rfl <| zx_aI hy (j := .iaload) (Or.inl ⟨rfl, rfl⟩) rfl e fun x3 _ e => zl hy 4 (pc2 := 42) (lv2 := [(0, .int l0), (1, .int l1), (2, .ref l2), (3, .long l3), (5, .int l5)]) (st2 := [.int l5, .int l1, .int l0, .long (x3).toInt64, .long l3]) rfl <| zx_div hy (G := fun _ => b2 (fB_power N l0 (l1 / l5) h) fun x5 h6 => fB_weighPowers_49 N (fB_weighPowers_12 N n ) l0 l1 l2 (l3 + ((x3).toInt64 * x5)) l5 h6) rfl e fun _ e => zx_call hy (as := [.int l0, .int (l1 / l5)]) (rest := [.long (x3).toInt64, .long l3]) (ov := (fun v => some (.long v))) (fun _ => rfl) rfl rfl (Or.inr (Or.inl rfl)) rfl rfl (Nat.le_of_ble_eq_true rfl) (Nat.le_of_ble_eq_true rfl) (fun _ _ hz => absurd rfl hz) (fun _ e => zt_deep (Nat.le_of_ble_eq_true rfl) (sfB_power N l0 (l1 / l5) h _ e)) e fun x5 h6 _ e => zl hy 3 (pc2 := 49) (lv2 := [(3, .long (l3 + ((x3).toInt64 * x5))), (0, .int l0), (1, .int l1), (2, .ref l2), (5, .int l5)]) (st2 := []) rfl <| zt_sub (z_fc rfl (z_fc rfl (z_fc rfl (z_fc rfl (z_fc rfl (z_fn)))))) <| sfB_weighPowers_49 N (fB_weighPowers_12 N n ) ih l0 l1 l2 (l3 + ((x3).toInt64 * x5)) l5 h6 _ e)))
def fB_weighPowers (N : Nat) (l0 : Int32) (l1 : Int32) (l2 : Nat) (h : zH) : Option (Int64 × zH) := cond (z_cmp .ge l1 (Int32.ofInt 1)) (fB_weighPowers_12 N N  l0 l1 l2 (Int64.ofNat 0) (Int32.ofInt 1) h) (some ((Int64.ofNat 0), h))
theorem sfB_weighPowers {xs : List Int32} (N : Nat) (l0 : Int32) (l1 : Int32) (l2 : Nat) (h : zH) (r : Int64 × zH) (e : fB_weighPowers N l0 l1 l2 h = some r) : zt xs (2) 142 0 [(0, .int l0), (1, .int l1), (2, .ref l2)] [] h 0 0 (zQ cL r) := by
  have hy := mfB_weighPowers_m
  unfold fB_weighPowers at e
  exact zl hy 2 (pc2 := 2) (lv2 := [(0, .int l0), (1, .int l1), (2, .ref l2)]) (st2 := [.int (Int32.ofInt 1), .int l1]) rfl <| zx_c hy rfl e (fun _ e => zl hy 4 (pc2 := 12) (lv2 := [(5, .int (Int32.ofInt 1)), (3, .long (Int64.ofNat 0)), (0, .int l0), (1, .int l1), (2, .ref l2)]) (st2 := []) rfl <| zt_sub (z_fc rfl (z_fc rfl (z_fc rfl (z_fc rfl (z_fc rfl (z_fn)))))) <| sfB_weighPowers_12 N   N l0 l1 l2 (Int64.ofNat 0) (Int32.ofInt 1) h _ e) (fun _ e => zl hy 1 (pc2 := 6) (lv2 := [(0, .int l0), (1, .int l1), (2, .ref l2)]) (st2 := [.long (Int64.ofNat 0)]) rfl <| zx_ret hy rfl rfl rfl rfl e)
/-- LyndonBench.lyndonWords(I)J -/
theorem mfB_lyndonWords : z_me 123 zc_123 2 [] (some .long) := ⟨z_me0 rfl, rfl, rfl, rfl⟩
def fB_lyndonWords (N : Nat) (l0 : Nat) (l1 : Int32) (h : zH) : Option ((Int64 ⊕ Nat) × zH) := cond (fT h l0 0) (bX (fB_checkCountedLength N l0 l1 h) fun _ h2 => b1 (fR h2 l0 0 0) fun x3 => b1 (fI h2 x3 3 0) fun x4 => b2 (fB_weighPowers N x4 l1 1000013 h2) fun x5 h6 => some (Sum.inl x5, h6)) none
theorem sfB_lyndonWords {xs : List Int32} (N : Nat) (l0 : Nat) (l1 : Int32) (h : zH) (r : (Int64 ⊕ Nat) × zH) (e : fB_lyndonWords N l0 l1 h = some r) : zt xs (3) 123 0 [(0, .ref l0), (1, .int l1)] [] h 0 0 (zQ (cX cL) r) := by
  have hy := mfB_lyndonWords
  unfold fB_lyndonWords at e
  replace e := (cond_some e).2
  exact zl hy 2 (pc2 := 2) (lv2 := [(0, .ref l0), (1, .int l1)]) (st2 := [.int l1, .ref l0]) rfl <| zx_callX hy (as := [.ref l0, .int l1]) (rest := []) (ov := (fun _ => none)) (fun _ => rfl) rfl rfl (Or.inl rfl) rfl rfl (Nat.le_of_ble_eq_true rfl) (Nat.le_of_ble_eq_true rfl) (fun _ e _ => z_rcvT (rfB_checkCountedLength N l0 l1 h _ e)) (fun _ e => zt_deep (Nat.le_of_ble_eq_true rfl) (sfB_checkCountedLength N l0 l1 h _ e)) e fun _ h2 _ e => zl hy 1 (pc2 := 6) (lv2 := [(0, .ref l0), (1, .int l1)]) (st2 := [.ref l0]) rfl <| zx_gR hy rfl e fun x3 _ e => zx_gI hy rfl e fun x4 _ e => zl hy 1 (pc2 := 13) (lv2 := [(0, .ref l0), (1, .int l1)]) (st2 := [.int l1, .int x4]) rfl <| zx_gs hy (v := .ref 1000013) rfl rfl rfl <| zx_call hy (as := [.int x4, .int l1, .ref 1000013]) (rest := []) (ov := (fun v => some (.long v))) (fun _ => rfl) rfl rfl (Or.inr (Or.inl rfl)) rfl rfl (Nat.le_of_ble_eq_true rfl) (Nat.le_of_ble_eq_true rfl) (fun _ _ hz => absurd rfl hz) (fun _ e => zt_deep (Nat.le_of_ble_eq_true rfl) (sfB_weighPowers N x4 l1 1000013 h2 _ e)) e fun x5 h6 _ e => zx_ret hy rfl rfl rfl rfl e
theorem rfB_lyndonWords (N : Nat) (l0 : Nat) (l1 : Int32) (h : zH) (r : (Int64 ⊕ Nat) × zH) (e : fB_lyndonWords N l0 l1 h = some r) : fT h l0 0 = true := by
  unfold fB_lyndonWords at e
  exact (cond_some e).1
/-- LyndonBench.necklaces(I)J -/
theorem mfB_necklaces : z_me 124 zc_124 2 [] (some .long) := ⟨z_me0 rfl, rfl, rfl, rfl⟩
def fB_necklaces (N : Nat) (l0 : Nat) (l1 : Int32) (h : zH) : Option ((Int64 ⊕ Nat) × zH) := cond (fT h l0 0) (bX (fB_checkCountedLength N l0 l1 h) fun _ h2 => b1 (fR h2 l0 0 0) fun x3 => b1 (fI h2 x3 3 0) fun x4 => b2 (fB_weighPowers N x4 l1 1000014 h2) fun x5 h6 => some (Sum.inl x5, h6)) none
theorem sfB_necklaces {xs : List Int32} (N : Nat) (l0 : Nat) (l1 : Int32) (h : zH) (r : (Int64 ⊕ Nat) × zH) (e : fB_necklaces N l0 l1 h = some r) : zt xs (3) 124 0 [(0, .ref l0), (1, .int l1)] [] h 0 0 (zQ (cX cL) r) := by
  have hy := mfB_necklaces
  unfold fB_necklaces at e
  replace e := (cond_some e).2
  exact zl hy 2 (pc2 := 2) (lv2 := [(0, .ref l0), (1, .int l1)]) (st2 := [.int l1, .ref l0]) rfl <| zx_callX hy (as := [.ref l0, .int l1]) (rest := []) (ov := (fun _ => none)) (fun _ => rfl) rfl rfl (Or.inl rfl) rfl rfl (Nat.le_of_ble_eq_true rfl) (Nat.le_of_ble_eq_true rfl) (fun _ e _ => z_rcvT (rfB_checkCountedLength N l0 l1 h _ e)) (fun _ e => zt_deep (Nat.le_of_ble_eq_true rfl) (sfB_checkCountedLength N l0 l1 h _ e)) e fun _ h2 _ e => zl hy 1 (pc2 := 6) (lv2 := [(0, .ref l0), (1, .int l1)]) (st2 := [.ref l0]) rfl <| zx_gR hy rfl e fun x3 _ e => zx_gI hy rfl e fun x4 _ e => zl hy 1 (pc2 := 13) (lv2 := [(0, .ref l0), (1, .int l1)]) (st2 := [.int l1, .int x4]) rfl <| zx_gs hy (v := .ref 1000014) rfl rfl rfl <| zx_call hy (as := [.int x4, .int l1, .ref 1000014]) (rest := []) (ov := (fun v => some (.long v))) (fun _ => rfl) rfl rfl (Or.inr (Or.inl rfl)) rfl rfl (Nat.le_of_ble_eq_true rfl) (Nat.le_of_ble_eq_true rfl) (fun _ _ hz => absurd rfl hz) (fun _ e => zt_deep (Nat.le_of_ble_eq_true rfl) (sfB_weighPowers N x4 l1 1000014 h2 _ e)) e fun x5 h6 _ e => zx_ret hy rfl rfl rfl rfl e
theorem rfB_necklaces (N : Nat) (l0 : Nat) (l1 : Int32) (h : zH) (r : (Int64 ⊕ Nat) × zH) (e : fB_necklaces N l0 l1 h = some r) : fT h l0 0 = true := by
  unfold fB_necklaces at e
  exact (cond_some e).1
/-- LyndonBench.findRowLetter(II)I -/
theorem mfB_findRowLetter : z_me 146 zc_146 5 [] (some .int) := ⟨z_me0 rfl, rfl, rfl, rfl⟩
abbrev zC_146_96 : List zE := [(96, .iconst (-1), 1, 0, 0), (97, .ireturn, 1, 0, 0)]
theorem mfB_findRowLetter_96 : z_me 146 zC_146_96 5 [] (some .int) := ⟨z_me1 (cd := zc_146) rfl (by decide +kernel), rfl, rfl, rfl⟩
abbrev zC_146_75 : List zE := [(75, .aload_n 0, 1, 0, 0), (76, .getfield 46, 3, 0, 6), (79, .iload_n 1, 1, 0, 0), (80, .aload_n 0, 1, 0, 0), (81, .getfield 12, 3, 0, 0), (84, .invokevirtual 166, 3, 32, 0), (87, .invokevirtual 169, 3, 75, 2), (90, .iinc 4 1, 3, 0, 0), (93, .goto (-84), 3, 9, 0)]
theorem mfB_findRowLetter_75 : z_me 146 zC_146_75 5 [] (some .int) := ⟨z_me1 (cd := zc_146) rfl (by decide +kernel), rfl, rfl, rfl⟩
abbrev zC_146_9 : List zE := [(9, .iload 4, 2, 0, 0), (11, .iload_n 1, 1, 0, 0), (12, .sipush 4096, 3, 0, 0), (15, .imul, 1, 0, 0), (16, .if_icmp .ge 80, 3, 96, 0), (19, .aload_n 0, 1, 0, 0), (20, .getfield 46, 3, 0, 6), (23, .getfield 70, 3, 4, 1), (26, .ifCond .le 70, 3, 96, 0), (29, .iload_n 1, 1, 0, 0), (30, .aload_n 0, 1, 0, 0), (31, .getfield 46, 3, 0, 6), (34, .getfield 70, 3, 4, 1), (37, .irem, 1, 0, 0), (38, .ifCond .ne 37, 3, 75, 0), (41, .iload_n 2, 1, 0, 0), (42, .iload_n 3, 1, 0, 0), (43, .aload_n 0, 1, 0, 0), (44, .getfield 46, 3, 0, 6), (47, .getfield 70, 3, 4, 1), (50, .iadd, 1, 0, 0), (51, .if_icmp .ge 14, 3, 65, 0), (54, .aload_n 0, 1, 0, 0), (55, .getfield 46, 3, 0, 6), (58, .iload_n 2, 1, 0, 0), (59, .iload_n 3, 1, 0, 0), (60, .isub, 1, 0, 0), (61, .invokevirtual 116, 3, 43, 1), (64, .ireturn, 1, 0, 0), (65, .iload_n 3, 1, 0, 0), (66, .aload_n 0, 1, 0, 0), (67, .getfield 46, 3, 0, 6), (70, .getfield 70, 3, 4, 1), (73, .iadd, 1, 0, 0), (74, .istore_n 3, 1, 0, 0)]
theorem mfB_findRowLetter_9 : z_me 146 zC_146_9 5 [] (some .int) := ⟨z_me1 (cd := zc_146) rfl (by decide +kernel), rfl, rfl, rfl⟩
abbrev zC_146_m : List zE := [(0, .iconst 0, 1, 0, 0), (1, .istore_n 3, 1, 0, 0), (2, .aload_n 0, 1, 0, 0), (3, .invokevirtual 314, 3, 144, 0), (6, .iconst 0, 1, 0, 0), (7, .istore 4, 2, 0, 0)]
theorem mfB_findRowLetter_m : z_me 146 zC_146_m 5 [] (some .int) := ⟨z_me1 (cd := zc_146) rfl (by decide +kernel), rfl, rfl, rfl⟩
def fB_findRowLetter_96 (N : Nat)   (h : zH) : Option (Int32 × zH) := some ((Int32.ofInt (-1)), h)
theorem sfB_findRowLetter_96 {xs : List Int32} (N : Nat)    (h : zH) (r : Int32 × zH) (e : fB_findRowLetter_96 N   h = some r) : zt xs (3) 146 96 [] [] h 0 0 (zQ cI r) := by
  have hy := mfB_findRowLetter_96
  unfold fB_findRowLetter_96 at e
  exact zl hy 1 (pc2 := 97) (lv2 := []) (st2 := [.int (Int32.ofInt (-1))]) rfl <| zx_ret hy rfl rfl rfl rfl e
def fB_findRowLetter_75 (N : Nat) (k9 : Nat → Int32 → Int32 → Int32 → Int32 → zH → Option (Int32 × zH)) (l0 : Nat) (l1 : Int32) (l2 : Int32) (l3 : Int32) (l4 : Int32) (h : zH) : Option (Int32 × zH) := b1 (fR h l0 0 6) fun x8 => b1 (fR h l0 0 0) fun x9 => b2 (fS_greatestLetter N x9 h) fun x10 h11 => b2 (fW_stepLyndon N x8 l1 x10 h11) fun _ h13 => k9 l0 l1 l2 l3 (l4 + Int32.ofInt 1) h13
theorem sfB_findRowLetter_75 {xs : List Int32} (N : Nat) (k9 : Nat → Int32 → Int32 → Int32 → Int32 → zH → Option (Int32 × zH))  (hk9 : ∀ (l0 : Nat) (l1 : Int32) (l2 : Int32) (l3 : Int32) (l4 : Int32) (h : zH) (r : Int32 × zH), k9 l0 l1 l2 l3 l4 h = some r → zt xs (3) 146 9 [(0, .ref l0), (1, .int l1), (2, .int l2), (3, .int l3), (4, .int l4)] [] h 0 0 (zQ cI r)) (l0 : Nat) (l1 : Int32) (l2 : Int32) (l3 : Int32) (l4 : Int32) (h : zH) (r : Int32 × zH) (e : fB_findRowLetter_75 N k9 l0 l1 l2 l3 l4 h = some r) : zt xs (3) 146 75 [(0, .ref l0), (1, .int l1), (2, .int l2), (3, .int l3), (4, .int l4)] [] h 0 0 (zQ cI r) := by
  have hy := mfB_findRowLetter_75
  unfold fB_findRowLetter_75 at e
  exact zl hy 1 (pc2 := 76) (lv2 := [(0, .ref l0), (1, .int l1), (2, .int l2), (3, .int l3), (4, .int l4)]) (st2 := [.ref l0]) rfl <| zx_gR hy rfl e fun x8 _ e => zl hy 2 (pc2 := 81) (lv2 := [(0, .ref l0), (1, .int l1), (2, .int l2), (3, .int l3), (4, .int l4)]) (st2 := [.ref l0, .int l1, .ref x8]) rfl <| zx_gR hy rfl e fun x9 _ e => zx_call hy (as := [.ref x9]) (rest := [.int l1, .ref x8]) (ov := (fun v => some (.int v))) (fun _ => rfl) rfl rfl (Or.inl rfl) rfl rfl (Nat.le_of_ble_eq_true rfl) (Nat.le_of_ble_eq_true rfl) (fun _ e _ => z_rcvT (rfS_greatestLetter N x9 h _ e)) (fun _ e => zt_deep (Nat.le_of_ble_eq_true rfl) (sfS_greatestLetter N x9 h _ e)) e fun x10 h11 _ e => zx_call hy (as := [.ref x8, .int l1, .int x10]) (rest := []) (ov := (fun _ => none)) (fun _ => rfl) rfl rfl (Or.inl rfl) rfl rfl (Nat.le_of_ble_eq_true rfl) (Nat.le_of_ble_eq_true rfl) (fun _ e _ => z_rcvT (rfW_stepLyndon N x8 l1 x10 h11 _ e)) (fun _ e => zt_deep (Nat.le_of_ble_eq_true rfl) (sfW_stepLyndon N x8 l1 x10 h11 _ e)) e fun _ h13 _ e => zl hy 2 (pc2 := 9) (lv2 := [(4, .int (l4 + Int32.ofInt 1)), (0, .ref l0), (1, .int l1), (2, .int l2), (3, .int l3)]) (st2 := []) rfl <| zt_sub (z_fc rfl (z_fc rfl (z_fc rfl (z_fc rfl (z_fc rfl (z_fn)))))) <| hk9 l0 l1 l2 l3 (l4 + Int32.ofInt 1) h13 _ e
def fB_findRowLetter_9 (N : Nat) : Nat → Nat → Int32 → Int32 → Int32 → Int32 → zH → Option (Int32 × zH)
  | 0, _, _, _, _, _, _ => none
  | n + 1, l0, l1, l2, l3, l4, h => cond (z_cmp .ge l4 (l1 * (Int32.ofInt 4096))) (fB_findRowLetter_96 N   h) (b1 (fR h l0 0 6) fun x3 => b1 (fI h x3 4 1) fun x4 => cond (z_cmp .le x4 (Int32.ofInt 0)) (fB_findRowLetter_96 N   h) (b1 (fR h l0 0 6) fun x5 => b1 (fI h x5 4 1) fun x6 => (if x6 = Int32.ofInt 0 then none else cond (z_cmp .ne (l1 - l1 / x6 * x6) (Int32.ofInt 0)) (fB_findRowLetter_75 N (fB_findRowLetter_9 N n ) l0 l1 l2 l3 l4 h) (b1 (fR h l0 0 6) fun x8 => b1 (fI h x8 4 1) fun x9 => cond (z_cmp .ge l2 (l3 + x9)) (b1 (fR h l0 0 6) fun x10 => b1 (fI h x10 4 1) fun x11 => fB_findRowLetter_75 N (fB_findRowLetter_9 N n ) l0 l1 l2 (l3 + x11) l4 h) (b1 (fR h l0 0 6) fun x12 => b2 (fW_at N x12 (l2 - l3) h) fun x13 h14 => some (x13, h14))))))
theorem sfB_findRowLetter_9 {xs : List Int32} (N : Nat)   : ∀ (n : Nat) (l0 : Nat) (l1 : Int32) (l2 : Int32) (l3 : Int32) (l4 : Int32) (h : zH) (r : Int32 × zH), fB_findRowLetter_9 N n  l0 l1 l2 l3 l4 h = some r → zt xs (3) 146 9 [(0, .ref l0), (1, .int l1), (2, .int l2), (3, .int l3), (4, .int l4)] [] h 0 0 (zQ cI r) := by
  have hy := mfB_findRowLetter_9
  intro n
  induction n with
  | zero =>
    intro l0 l1 l2 l3 l4 h r e
    rw [fB_findRowLetter_9] at e
    cases e
  | succ n ih =>
    intro l0 l1 l2 l3 l4 h r e
    rw [fB_findRowLetter_9] at e
    exact zl hy 2 (pc2 := 12) (lv2 := [(0, .ref l0), (1, .int l1), (2, .int l2), (3, .int l3), (4, .int l4)]) (st2 := [.int l1, .int l4]) rfl <| zx_sip hy (c := 4096) rfl (by decide) <| zl hy 1 (pc2 := 16) (lv2 := [(0, .ref l0), (1, .int l1), (2, .int l2), (3, .int l3), (4, .int l4)]) (st2 := [.int (l1 * (Int32.ofInt 4096)), .int l4]) rfl <| zx_c hy rfl e (fun _ e => zt_sub (z_fn) <| sfB_findRowLetter_96 N    h _ e) (fun _ e => zl hy 1 (pc2 := 20) (lv2 := [(0, .ref l0), (1, .int l1), (2, .int l2), (3, .int l3), (4, .int l4)]) (st2 := [.ref l0]) rfl <| zx_gR hy rfl e fun x3 _ e => zx_gI hy rfl e fun x4 _ e => zx_c0 hy rfl e (fun _ e => zt_sub (z_fn) <| sfB_findRowLetter_96 N    h _ e) (fun _ e => zl hy 2 (pc2 := 31) (lv2 := [(0, .ref l0), (1, .int l1), (2, .int l2), (3, .int l3), (4, .int l4)]) (st2 := [.ref l0, .int l1]) rfl <| zx_gR hy rfl e fun x5 _ e => zx_gI hy rfl e fun x6 _ e => zx_rem hy (G := fun _ => cond (z_cmp .ne (l1 - l1 / x6 * x6) (Int32.ofInt 0)) (fB_findRowLetter_75 N (fB_findRowLetter_9 N n ) l0 l1 l2 l3 l4 h) (b1 (fR h l0 0 6) fun x8 => b1 (fI h x8 4 1) fun x9 => cond (z_cmp .ge l2 (l3 + x9)) (b1 (fR h l0 0 6) fun x10 => b1 (fI h x10 4 1) fun x11 => fB_findRowLetter_75 N (fB_findRowLetter_9 N n ) l0 l1 l2 (l3 + x11) l4 h) (b1 (fR h l0 0 6) fun x12 => b2 (fW_at N x12 (l2 - l3) h) fun x13 h14 => some (x13, h14)))) rfl e fun _ e => zx_c0 hy rfl e (fun _ e => zt_sub (z_fc rfl (z_fc rfl (z_fc rfl (z_fc rfl (z_fc rfl (z_fn)))))) <| sfB_findRowLetter_75 N (fB_findRowLetter_9 N n ) ih l0 l1 l2 l3 l4 h _ e) (fun _ e => zl hy 3 (pc2 := 44) (lv2 := [(0, .ref l0), (1, .int l1), (2, .int l2), (3, .int l3), (4, .int l4)]) (st2 := [.ref l0, .int l3, .int l2]) rfl <| zx_gR hy rfl e fun x8 _ e => zx_gI hy rfl e fun x9 _ e => zl hy 1 (pc2 := 51) (lv2 := [(0, .ref l0), (1, .int l1), (2, .int l2), (3, .int l3), (4, .int l4)]) (st2 := [.int (l3 + x9), .int l2]) rfl <| zx_c hy rfl e (fun _ e => zl hy 2 (pc2 := 67) (lv2 := [(0, .ref l0), (1, .int l1), (2, .int l2), (3, .int l3), (4, .int l4)]) (st2 := [.ref l0, .int l3]) rfl <| zx_gR hy rfl e fun x10 _ e => zx_gI hy rfl e fun x11 _ e => zl hy 2 (pc2 := 75) (lv2 := [(3, .int (l3 + x11)), (0, .ref l0), (1, .int l1), (2, .int l2), (4, .int l4)]) (st2 := []) rfl <| zt_sub (z_fc rfl (z_fc rfl (z_fc rfl (z_fc rfl (z_fc rfl (z_fn)))))) <| sfB_findRowLetter_75 N (fB_findRowLetter_9 N n ) ih l0 l1 l2 (l3 + x11) l4 h _ e) (fun _ e => zl hy 1 (pc2 := 55) (lv2 := [(0, .ref l0), (1, .int l1), (2, .int l2), (3, .int l3), (4, .int l4)]) (st2 := [.ref l0]) rfl <| zx_gR hy rfl e fun x12 _ e => zl hy 3 (pc2 := 61) (lv2 := [(0, .ref l0), (1, .int l1), (2, .int l2), (3, .int l3), (4, .int l4)]) (st2 := [.int (l2 - l3), .ref x12]) rfl <| zx_call hy (as := [.ref x12, .int (l2 - l3)]) (rest := []) (ov := (fun v => some (.int v))) (fun _ => rfl) rfl rfl (Or.inl rfl) rfl rfl (Nat.le_of_ble_eq_true rfl) (Nat.le_of_ble_eq_true rfl) (fun _ e _ => z_rcvT (rfW_at N x12 (l2 - l3) h _ e)) (fun _ e => zt_deep (Nat.le_of_ble_eq_true rfl) (sfW_at N x12 (l2 - l3) h _ e)) e fun x13 h14 _ e => zx_ret hy rfl rfl rfl rfl e))))
def fB_findRowLetter (N : Nat) (l0 : Nat) (l1 : Int32) (l2 : Int32) (h : zH) : Option (Int32 × zH) := cond (fT h l0 0) (b2 (fB_startListing N l0 h) fun _ h2 => fB_findRowLetter_9 N N  l0 l1 l2 (Int32.ofInt 0) (Int32.ofInt 0) h2) none
theorem sfB_findRowLetter {xs : List Int32} (N : Nat) (l0 : Nat) (l1 : Int32) (l2 : Int32) (h : zH) (r : Int32 × zH) (e : fB_findRowLetter N l0 l1 l2 h = some r) : zt xs (3) 146 0 [(0, .ref l0), (1, .int l1), (2, .int l2)] [] h 0 0 (zQ cI r) := by
  have hy := mfB_findRowLetter_m
  unfold fB_findRowLetter at e
  replace e := (cond_some e).2
  exact zl hy 3 (pc2 := 3) (lv2 := [(3, .int (Int32.ofInt 0)), (0, .ref l0), (1, .int l1), (2, .int l2)]) (st2 := [.ref l0]) rfl <| zx_call hy (as := [.ref l0]) (rest := []) (ov := (fun _ => none)) (fun _ => rfl) rfl rfl (Or.inl rfl) rfl rfl (Nat.le_of_ble_eq_true rfl) (Nat.le_of_ble_eq_true rfl) (fun _ e _ => z_rcvT (rfB_startListing N l0 h _ e)) (fun _ e => zt_deep (Nat.le_of_ble_eq_true rfl) (sfB_startListing N l0 h _ e)) e fun _ h2 _ e => zl hy 2 (pc2 := 9) (lv2 := [(4, .int (Int32.ofInt 0)), (3, .int (Int32.ofInt 0)), (0, .ref l0), (1, .int l1), (2, .int l2)]) (st2 := []) rfl <| zt_sub (z_fc rfl (z_fc rfl (z_fc rfl (z_fc rfl (z_fc rfl (z_fn)))))) <| sfB_findRowLetter_9 N   N l0 l1 l2 (Int32.ofInt 0) (Int32.ofInt 0) h2 _ e
theorem rfB_findRowLetter (N : Nat) (l0 : Nat) (l1 : Int32) (l2 : Int32) (h : zH) (r : Int32 × zH) (e : fB_findRowLetter N l0 l1 l2 h = some r) : fT h l0 0 = true := by
  unfold fB_findRowLetter at e
  exact (cond_some e).1
/-- LyndonBench.bruijnLetter(II)I -/
theorem mfB_bruijnLetter : z_me 125 zc_125 4 [] (some .int) := ⟨z_me0 rfl, rfl, rfl, rfl⟩
abbrev zC_125_25 : List zE := [(25, .new 77, 3, 0, 1000)]
theorem mfB_bruijnLetter_25 : z_me 125 zC_125_25 4 [] (some .int) := ⟨z_me1 (cd := zc_125) rfl (by decide +kernel), rfl, rfl, rfl⟩
abbrev zC_125_50 : List zE := [(50, .istore_n 3, 1, 0, 0), (51, .iload_n 3, 1, 0, 0), (52, .iconst (-1), 1, 0, 0), (53, .if_icmp .ne 14, 3, 67, 0), (56, .new 192, 3, 2, 1000), (67, .iload_n 3, 1, 0, 0), (68, .ireturn, 1, 0, 0)]
theorem mfB_bruijnLetter_50 : z_me 125 zC_125_50 4 [] (some .int) := ⟨z_me1 (cd := zc_125) rfl (by decide +kernel), rfl, rfl, rfl⟩
abbrev zC_125_m : List zE := [(0, .iload_n 1, 1, 0, 0), (1, .iconst 1, 1, 0, 0), (2, .if_icmp .lt 23, 3, 25, 0), (5, .iload_n 1, 1, 0, 0), (6, .bipush 12, 2, 0, 0), (8, .if_icmp .gt 17, 3, 25, 0), (11, .aload_n 0, 1, 0, 0), (12, .getfield 12, 3, 0, 0), (15, .getfield 113, 3, 3, 0), (18, .iload_n 1, 1, 0, 0), (19, .invokestatic 243, 3, 141, 2), (22, .ifCond .ne 14, 3, 36, 0), (36, .iload_n 2, 1, 0, 0), (37, .ifCond .ge 7, 3, 44, 0), (40, .iconst (-1), 1, 0, 0), (41, .goto 9, 3, 50, 0), (44, .aload_n 0, 1, 0, 0), (45, .iload_n 1, 1, 0, 0), (46, .iload_n 2, 1, 0, 0), (47, .invokevirtual 281, 3, 146, 2)]
theorem mfB_bruijnLetter_m : z_me 125 zC_125_m 4 [] (some .int) := ⟨z_me1 (cd := zc_125) rfl (by decide +kernel), rfl, rfl, rfl⟩
def fB_bruijnLetter_25 (N : Nat)   (h : zH) : Option ((Int32 ⊕ Nat) × zH) := some (Sum.inr 0, h)
theorem sfB_bruijnLetter_25 {xs : List Int32} (N : Nat)    (h : zH) (r : (Int32 ⊕ Nat) × zH) (e : fB_bruijnLetter_25 N   h = some r) : zt xs (4) 125 25 [] [] h 0 0 (zQ (cX cI) r) := by
  have hy := mfB_bruijnLetter_25
  unfold fB_bruijnLetter_25 at e
  exact zx_thr hy rfl (Nat.le_of_ble_eq_true rfl) e
def fB_bruijnLetter_50 (N : Nat)  (s0 : Int32) (h : zH) : Option ((Int32 ⊕ Nat) × zH) := cond (z_cmp .ne s0 (Int32.ofInt (-1))) (some (Sum.inl s0, h)) (some (Sum.inr 2, h))
theorem sfB_bruijnLetter_50 {xs : List Int32} (N : Nat)   (s0 : Int32) (h : zH) (r : (Int32 ⊕ Nat) × zH) (e : fB_bruijnLetter_50 N  s0 h = some r) : zt xs (4) 125 50 [] [.int s0] h 0 0 (zQ (cX cI) r) := by
  have hy := mfB_bruijnLetter_50
  unfold fB_bruijnLetter_50 at e
  exact zl hy 3 (pc2 := 53) (lv2 := [(3, .int s0)]) (st2 := [.int (Int32.ofInt (-1)), .int s0]) rfl <| zx_c hy rfl e (fun _ e => zl hy 1 (pc2 := 68) (lv2 := [(3, .int s0)]) (st2 := [.int s0]) rfl <| zx_ret hy rfl rfl rfl rfl e) (fun _ e => zx_thr hy rfl (Nat.le_of_ble_eq_true rfl) e)
def fB_bruijnLetter (N : Nat) (l0 : Nat) (l1 : Int32) (l2 : Int32) (h : zH) : Option ((Int32 ⊕ Nat) × zH) := cond (fT h l0 0) (cond (z_cmp .lt l1 (Int32.ofInt 1)) (fB_bruijnLetter_25 N   h) (cond (z_cmp .gt l1 (Int32.ofInt 12)) (fB_bruijnLetter_25 N   h) (b1 (fR h l0 0 0) fun x1 => b1 (fI h x1 3 0) fun x2 => b2 (fB_fitsRow N x2 l1 h) fun x3 h4 => cond (z_cmp .ne x3 (Int32.ofInt 0)) (cond (z_cmp .ge l2 (Int32.ofInt 0)) (b2 (fB_findRowLetter N l0 l1 l2 h4) fun x5 h6 => fB_bruijnLetter_50 N  x5 h6) (fB_bruijnLetter_50 N  (Int32.ofInt (-1)) h4)) (fB_bruijnLetter_25 N   h4)))) none
theorem sfB_bruijnLetter {xs : List Int32} (N : Nat) (l0 : Nat) (l1 : Int32) (l2 : Int32) (h : zH) (r : (Int32 ⊕ Nat) × zH) (e : fB_bruijnLetter N l0 l1 l2 h = some r) : zt xs (4) 125 0 [(0, .ref l0), (1, .int l1), (2, .int l2)] [] h 0 0 (zQ (cX cI) r) := by
  have hy := mfB_bruijnLetter_m
  unfold fB_bruijnLetter at e
  replace e := (cond_some e).2
  exact zl hy 2 (pc2 := 2) (lv2 := [(0, .ref l0), (1, .int l1), (2, .int l2)]) (st2 := [.int (Int32.ofInt 1), .int l1]) rfl <| zx_c hy rfl e (fun _ e => zt_sub (z_fn) <| sfB_bruijnLetter_25 N    h _ e) (fun _ e => zl hy 1 (pc2 := 6) (lv2 := [(0, .ref l0), (1, .int l1), (2, .int l2)]) (st2 := [.int l1]) rfl <| zx_bip hy (c := 12) rfl (by decide) <| zx_c hy rfl e (fun _ e => zt_sub (z_fn) <| sfB_bruijnLetter_25 N    h _ e) (fun _ e => zl hy 1 (pc2 := 12) (lv2 := [(0, .ref l0), (1, .int l1), (2, .int l2)]) (st2 := [.ref l0]) rfl <| zx_gR hy rfl e fun x1 _ e => zx_gI hy rfl e fun x2 _ e => zl hy 1 (pc2 := 19) (lv2 := [(0, .ref l0), (1, .int l1), (2, .int l2)]) (st2 := [.int l1, .int x2]) rfl <| zx_call hy (as := [.int x2, .int l1]) (rest := []) (ov := (fun v => some (.int v))) (fun _ => rfl) rfl rfl (Or.inr (Or.inl rfl)) rfl rfl (Nat.le_of_ble_eq_true rfl) (Nat.le_of_ble_eq_true rfl) (fun _ _ hz => absurd rfl hz) (fun _ e => zt_deep (Nat.le_of_ble_eq_true rfl) (sfB_fitsRow N x2 l1 h _ e)) e fun x3 h4 _ e => zx_c0 hy rfl e (fun _ e => zl hy 1 (pc2 := 37) (lv2 := [(0, .ref l0), (1, .int l1), (2, .int l2)]) (st2 := [.int l2]) rfl <| zx_c0 hy rfl e (fun _ e => zl hy 3 (pc2 := 47) (lv2 := [(0, .ref l0), (1, .int l1), (2, .int l2)]) (st2 := [.int l2, .int l1, .ref l0]) rfl <| zx_call hy (as := [.ref l0, .int l1, .int l2]) (rest := []) (ov := (fun v => some (.int v))) (fun _ => rfl) rfl rfl (Or.inl rfl) rfl rfl (Nat.le_of_ble_eq_true rfl) (Nat.le_of_ble_eq_true rfl) (fun _ e _ => z_rcvT (rfB_findRowLetter N l0 l1 l2 h4 _ e)) (fun _ e => zt_deep (Nat.le_of_ble_eq_true rfl) (sfB_findRowLetter N l0 l1 l2 h4 _ e)) e fun x5 h6 _ e => zt_sub (z_fn) <| sfB_bruijnLetter_50 N   x5 h6 _ e) (fun _ e => zl hy 2 (pc2 := 50) (lv2 := [(0, .ref l0), (1, .int l1), (2, .int l2)]) (st2 := [.int (Int32.ofInt (-1))]) rfl <| zt_sub (z_fn) <| sfB_bruijnLetter_50 N   (Int32.ofInt (-1)) h4 _ e)) (fun _ e => zt_sub (z_fn) <| sfB_bruijnLetter_25 N    h4 _ e)))
theorem rfB_bruijnLetter (N : Nat) (l0 : Nat) (l1 : Int32) (l2 : Int32) (h : zH) (r : (Int32 ⊕ Nat) × zH) (e : fB_bruijnLetter N l0 l1 l2 h = some r) : fT h l0 0 = true := by
  unfold fB_bruijnLetter at e
  exact (cond_some e).1
/-- LyndonBench.keptCount()I -/
theorem mfB_keptCount : z_me 126 zc_126 1 [] (some .int) := ⟨z_me0 rfl, rfl, rfl, rfl⟩
def fB_keptCount (N : Nat) (l0 : Nat) (h : zH) : Option (Int32 × zH) := cond (fT h l0 0) (b1 (fR h l0 0 0) fun x1 => b1 (fI h x1 3 3) fun x2 => some (x2, h)) none
theorem sfB_keptCount {xs : List Int32} (N : Nat) (l0 : Nat) (h : zH) (r : Int32 × zH) (e : fB_keptCount N l0 h = some r) : zt xs (1) 126 0 [(0, .ref l0)] [] h 0 0 (zQ cI r) := by
  have hy := mfB_keptCount
  unfold fB_keptCount at e
  replace e := (cond_some e).2
  exact zl hy 1 (pc2 := 1) (lv2 := [(0, .ref l0)]) (st2 := [.ref l0]) rfl <| zx_gR hy rfl e fun x1 _ e => zx_gI hy rfl e fun x2 _ e => zx_ret hy rfl rfl rfl rfl e
theorem rfB_keptCount (N : Nat) (l0 : Nat) (h : zH) (r : Int32 × zH) (e : fB_keptCount N l0 h = some r) : fT h l0 0 = true := by
  unfold fB_keptCount at e
  exact (cond_some e).1
/-- LyndonBench.keptLength(I)I -/
theorem mfB_keptLength : z_me 127 zc_127 3 [] (some .int) := ⟨z_me0 rfl, rfl, rfl, rfl⟩
def fB_keptLength (N : Nat) (l0 : Nat) (l1 : Int32) (h : zH) : Option ((Int32 ⊕ Nat) × zH) := cond (fT h l0 0) (b1 (fR h l0 0 0) fun x1 => b2 (fS_keptAt N x1 l1 h) fun x2 h3 => (match x2 with | none => some (Sum.inr 2, h3) | some x4 => cond (fX h3 x4) (b1 (fI h3 x4 4 1) fun x5 => some (Sum.inl x5, h3)) none)) none
theorem sfB_keptLength {xs : List Int32} (N : Nat) (l0 : Nat) (l1 : Int32) (h : zH) (r : (Int32 ⊕ Nat) × zH) (e : fB_keptLength N l0 l1 h = some r) : zt xs (2) 127 0 [(0, .ref l0), (1, .int l1)] [] h 0 0 (zQ (cX cI) r) := by
  have hy := mfB_keptLength
  unfold fB_keptLength at e
  replace e := (cond_some e).2
  exact zl hy 1 (pc2 := 1) (lv2 := [(0, .ref l0), (1, .int l1)]) (st2 := [.ref l0]) rfl <| zx_gR hy rfl e fun x1 _ e => zl hy 1 (pc2 := 5) (lv2 := [(0, .ref l0), (1, .int l1)]) (st2 := [.int l1, .ref x1]) rfl <| zx_call hy (as := [.ref x1, .int l1]) (rest := []) (ov := (fun v => some (va_rf v))) (fun _ => rfl) rfl rfl (Or.inl rfl) rfl rfl (Nat.le_of_ble_eq_true rfl) (Nat.le_of_ble_eq_true rfl) (fun _ e _ => z_rcvT (rfS_keptAt N x1 l1 h _ e)) (fun _ e => zt_deep (Nat.le_of_ble_eq_true rfl) (sfS_keptAt N x1 l1 h _ e)) e fun x2 h3 _ e => (match x2, e with | none, e => zl hy 2 (pc2 := 10) (lv2 := [(2, .null), (0, .ref l0), (1, .int l1)]) (st2 := [.null]) rfl <| zx_nonnullN hy rfl <| zx_thr hy rfl (Nat.le_of_ble_eq_true rfl) e | some x4, e => zl hy 2 (pc2 := 10) (lv2 := [(2, .ref x4), (0, .ref l0), (1, .int l1)]) (st2 := [.ref x4]) rfl <| zx_nonnullR hy rfl e fun e => zl hy 1 (pc2 := 24) (lv2 := [(2, .ref x4), (0, .ref l0), (1, .int l1)]) (st2 := [.ref x4]) rfl <| zx_gI hy rfl e fun x5 _ e => zx_ret hy rfl rfl rfl rfl e)
theorem rfB_keptLength (N : Nat) (l0 : Nat) (l1 : Int32) (h : zH) (r : (Int32 ⊕ Nat) × zH) (e : fB_keptLength N l0 l1 h = some r) : fT h l0 0 = true := by
  unfold fB_keptLength at e
  exact (cond_some e).1
/-- LyndonBench.keptLetter(II)I -/
theorem mfB_keptLetter : z_me 128 zc_128 4 [] (some .int) := ⟨z_me0 rfl, rfl, rfl, rfl⟩
def fB_keptLetter (N : Nat) (l0 : Nat) (l1 : Int32) (l2 : Int32) (h : zH) : Option ((Int32 ⊕ Nat) × zH) := cond (fT h l0 0) (b1 (fR h l0 0 0) fun x1 => b2 (fS_keptAt N x1 l1 h) fun x2 h3 => (match x2 with | none => some (Sum.inr 2, h3) | some x4 => cond (fX h3 x4) (b2 (fW_at N x4 l2 h3) fun x5 h6 => some (Sum.inl x5, h6)) none)) none
theorem sfB_keptLetter {xs : List Int32} (N : Nat) (l0 : Nat) (l1 : Int32) (l2 : Int32) (h : zH) (r : (Int32 ⊕ Nat) × zH) (e : fB_keptLetter N l0 l1 l2 h = some r) : zt xs (2) 128 0 [(0, .ref l0), (1, .int l1), (2, .int l2)] [] h 0 0 (zQ (cX cI) r) := by
  have hy := mfB_keptLetter
  unfold fB_keptLetter at e
  replace e := (cond_some e).2
  exact zl hy 1 (pc2 := 1) (lv2 := [(0, .ref l0), (1, .int l1), (2, .int l2)]) (st2 := [.ref l0]) rfl <| zx_gR hy rfl e fun x1 _ e => zl hy 1 (pc2 := 5) (lv2 := [(0, .ref l0), (1, .int l1), (2, .int l2)]) (st2 := [.int l1, .ref x1]) rfl <| zx_call hy (as := [.ref x1, .int l1]) (rest := []) (ov := (fun v => some (va_rf v))) (fun _ => rfl) rfl rfl (Or.inl rfl) rfl rfl (Nat.le_of_ble_eq_true rfl) (Nat.le_of_ble_eq_true rfl) (fun _ e _ => z_rcvT (rfS_keptAt N x1 l1 h _ e)) (fun _ e => zt_deep (Nat.le_of_ble_eq_true rfl) (sfS_keptAt N x1 l1 h _ e)) e fun x2 h3 _ e => (match x2, e with | none, e => zl hy 2 (pc2 := 10) (lv2 := [(3, .null), (0, .ref l0), (1, .int l1), (2, .int l2)]) (st2 := [.null]) rfl <| zx_nonnullN hy rfl <| zx_thr hy rfl (Nat.le_of_ble_eq_true rfl) e | some x4, e => zl hy 2 (pc2 := 10) (lv2 := [(3, .ref x4), (0, .ref l0), (1, .int l1), (2, .int l2)]) (st2 := [.ref x4]) rfl <| zx_nonnullR hy rfl e fun e => zl hy 2 (pc2 := 25) (lv2 := [(3, .ref x4), (0, .ref l0), (1, .int l1), (2, .int l2)]) (st2 := [.int l2, .ref x4]) rfl <| zx_call hy (as := [.ref x4, .int l2]) (rest := []) (ov := (fun v => some (.int v))) (fun _ => rfl) rfl rfl (Or.inl rfl) rfl rfl (Nat.le_of_ble_eq_true rfl) (Nat.le_of_ble_eq_true rfl) (fun _ e _ => z_rcvT (rfW_at N x4 l2 h3 _ e)) (fun _ e => zt_deep (Nat.le_of_ble_eq_true rfl) (sfW_at N x4 l2 h3 _ e)) e fun x5 h6 _ e => zx_ret hy rfl rfl rfl rfl e)
theorem rfB_keptLetter (N : Nat) (l0 : Nat) (l1 : Int32) (l2 : Int32) (h : zH) (r : (Int32 ⊕ Nat) × zH) (e : fB_keptLetter N l0 l1 l2 h = some r) : fT h l0 0 = true := by
  unfold fB_keptLetter at e
  exact (cond_some e).1
/-- LyndonBench.isShelfFalling()Z -/
theorem mfB_isShelfFalling : z_me 129 zc_129 4 [] (some .boolean) := ⟨z_me0 rfl, rfl, rfl, rfl⟩
abbrev zC_129_61 : List zE := [(61, .iinc 1 1, 3, 0, 0), (64, .goto (-62), 3, 2, 0)]
theorem mfB_isShelfFalling_61 : z_me 129 zC_129_61 4 [] (some .boolean) := ⟨z_me1 (cd := zc_129) rfl (by decide +kernel), rfl, rfl, rfl⟩
abbrev zC_129_2 : List zE := [(2, .iload_n 1, 1, 0, 0), (3, .aload_n 0, 1, 0, 0), (4, .getfield 12, 3, 0, 0), (7, .getfield 183, 3, 3, 3), (10, .if_icmp .ge 57, 3, 67, 0), (13, .aload_n 0, 1, 0, 0), (14, .getfield 12, 3, 0, 0), (17, .iload_n 1, 1, 0, 0), (18, .invokevirtual 188, 3, 34, 1), (21, .astore_n 2, 1, 0, 0), (22, .aload_n 0, 1, 0, 0), (23, .getfield 12, 3, 0, 0), (26, .iload_n 1, 1, 0, 0), (27, .iconst 1, 1, 0, 0), (28, .isub, 1, 0, 0), (29, .invokevirtual 188, 3, 34, 1), (32, .astore_n 3, 1, 0, 0), (33, .aload_n 2, 1, 0, 0), (34, .ifnull 27, 3, 61, 0), (37, .aload_n 3, 1, 0, 0), (38, .ifnull 23, 3, 61, 0), (41, .aload_n 2, 1, 0, 0), (42, .iconst 0, 1, 0, 0), (43, .aload_n 2, 1, 0, 0), (44, .getfield 70, 3, 4, 1), (47, .aload_n 3, 1, 0, 0), (48, .iconst 0, 1, 0, 0), (49, .aload_n 3, 1, 0, 0), (50, .getfield 70, 3, 4, 1), (53, .invokevirtual 226, 3, 58, 5), (56, .ifCond .le 5, 3, 61, 0), (59, .iconst 0, 1, 0, 0), (60, .ireturn, 1, 0, 0), (67, .iconst 1, 1, 0, 0), (68, .ireturn, 1, 0, 0)]
theorem mfB_isShelfFalling_2 : z_me 129 zC_129_2 4 [] (some .boolean) := ⟨z_me1 (cd := zc_129) rfl (by decide +kernel), rfl, rfl, rfl⟩
abbrev zC_129_m : List zE := [(0, .iconst 1, 1, 0, 0), (1, .istore_n 1, 1, 0, 0)]
theorem mfB_isShelfFalling_m : z_me 129 zC_129_m 4 [] (some .boolean) := ⟨z_me1 (cd := zc_129) rfl (by decide +kernel), rfl, rfl, rfl⟩
def fB_isShelfFalling_61 (N : Nat) (k2 : Nat → Int32 → zH → Option (Int32 × zH)) (l0 : Nat) (l1 : Int32) (h : zH) : Option (Int32 × zH) := k2 l0 (l1 + Int32.ofInt 1) h
theorem sfB_isShelfFalling_61 {xs : List Int32} (N : Nat) (k2 : Nat → Int32 → zH → Option (Int32 × zH))  (hk2 : ∀ (l0 : Nat) (l1 : Int32) (h : zH) (r : Int32 × zH), k2 l0 l1 h = some r → zt xs (3) 129 2 [(0, .ref l0), (1, .int l1)] [] h 0 0 (zQ cI r)) (l0 : Nat) (l1 : Int32) (h : zH) (r : Int32 × zH) (e : fB_isShelfFalling_61 N k2 l0 l1 h = some r) : zt xs (3) 129 61 [(0, .ref l0), (1, .int l1)] [] h 0 0 (zQ cI r) := by
  have hy := mfB_isShelfFalling_61
  unfold fB_isShelfFalling_61 at e
  exact zl hy 2 (pc2 := 2) (lv2 := [(1, .int (l1 + Int32.ofInt 1)), (0, .ref l0)]) (st2 := []) rfl <| zt_sub (z_fc rfl (z_fc rfl (z_fn))) <| hk2 l0 (l1 + Int32.ofInt 1) h _ e
def fB_isShelfFalling_2 (N : Nat) : Nat → Nat → Int32 → zH → Option (Int32 × zH)
  | 0, _, _, _ => none
  | n + 1, l0, l1, h => b1 (fR h l0 0 0) fun x1 => b1 (fI h x1 3 3) fun x2 => cond (z_cmp .ge l1 x2) (some ((Int32.ofInt 1), h)) (b1 (fR h l0 0 0) fun x3 => b2 (fS_keptAt N x3 l1 h) fun x4 h5 => (match x4 with | none => b1 (fR h5 l0 0 0) fun x7 => b2 (fS_keptAt N x7 (l1 - (Int32.ofInt 1)) h5) fun x8 h9 => (match x8 with | none => fB_isShelfFalling_61 N (fB_isShelfFalling_2 N n ) l0 l1 h9 | some x10 => fB_isShelfFalling_61 N (fB_isShelfFalling_2 N n ) l0 l1 h9) | some x6 => b1 (fR h5 l0 0 0) fun x11 => b2 (fS_keptAt N x11 (l1 - (Int32.ofInt 1)) h5) fun x12 h13 => (match x12 with | none => cond (fX h13 x6) (fB_isShelfFalling_61 N (fB_isShelfFalling_2 N n ) l0 l1 h13) none | some x14 => cond (fX h13 x6) (cond (fX h13 x14) (b1 (fI h13 x6 4 1) fun x15 => b1 (fI h13 x14 4 1) fun x16 => b2 (fW_order N x6 (Int32.ofInt 0) x15 x14 (Int32.ofInt 0) x16 h13) fun x17 h18 => cond (z_cmp .le x17 (Int32.ofInt 0)) (fB_isShelfFalling_61 N (fB_isShelfFalling_2 N n ) l0 l1 h18) (some ((Int32.ofInt 0), h18))) none) none)))
theorem sfB_isShelfFalling_2 {xs : List Int32} (N : Nat)   : ∀ (n : Nat) (l0 : Nat) (l1 : Int32) (h : zH) (r : Int32 × zH), fB_isShelfFalling_2 N n  l0 l1 h = some r → zt xs (3) 129 2 [(0, .ref l0), (1, .int l1)] [] h 0 0 (zQ cI r) := by
  have hy := mfB_isShelfFalling_2
  intro n
  induction n with
  | zero =>
    intro l0 l1 h r e
    rw [fB_isShelfFalling_2] at e
    cases e
  | succ n ih =>
    intro l0 l1 h r e
    rw [fB_isShelfFalling_2] at e
    exact zl hy 2 (pc2 := 4) (lv2 := [(0, .ref l0), (1, .int l1)]) (st2 := [.ref l0, .int l1]) rfl <| zx_gR hy rfl e fun x1 _ e => zx_gI hy rfl e fun x2 _ e => zx_c hy rfl e (fun _ e => zl hy 1 (pc2 := 68) (lv2 := [(0, .ref l0), (1, .int l1)]) (st2 := [.int (Int32.ofInt 1)]) rfl <| zx_ret hy (v := .int (Int32.ofInt 1)) rfl rfl (by decide) rfl e) (fun _ e => zl hy 1 (pc2 := 14) (lv2 := [(0, .ref l0), (1, .int l1)]) (st2 := [.ref l0]) rfl <| zx_gR hy rfl e fun x3 _ e => zl hy 1 (pc2 := 18) (lv2 := [(0, .ref l0), (1, .int l1)]) (st2 := [.int l1, .ref x3]) rfl <| zx_call hy (as := [.ref x3, .int l1]) (rest := []) (ov := (fun v => some (va_rf v))) (fun _ => rfl) rfl rfl (Or.inl rfl) rfl rfl (Nat.le_of_ble_eq_true rfl) (Nat.le_of_ble_eq_true rfl) (fun _ e _ => z_rcvT (rfS_keptAt N x3 l1 h _ e)) (fun _ e => zt_deep (Nat.le_of_ble_eq_true rfl) (sfS_keptAt N x3 l1 h _ e)) e fun x4 h5 _ e => (match x4, e with | none, e => zl hy 2 (pc2 := 23) (lv2 := [(2, .null), (0, .ref l0), (1, .int l1)]) (st2 := [.ref l0]) rfl <| zx_gR hy rfl e fun x7 _ e => zl hy 3 (pc2 := 29) (lv2 := [(2, .null), (0, .ref l0), (1, .int l1)]) (st2 := [.int (l1 - (Int32.ofInt 1)), .ref x7]) rfl <| zx_call hy (as := [.ref x7, .int (l1 - (Int32.ofInt 1))]) (rest := []) (ov := (fun v => some (va_rf v))) (fun _ => rfl) rfl rfl (Or.inl rfl) rfl rfl (Nat.le_of_ble_eq_true rfl) (Nat.le_of_ble_eq_true rfl) (fun _ e _ => z_rcvT (rfS_keptAt N x7 (l1 - (Int32.ofInt 1)) h5 _ e)) (fun _ e => zt_deep (Nat.le_of_ble_eq_true rfl) (sfS_keptAt N x7 (l1 - (Int32.ofInt 1)) h5 _ e)) e fun x8 h9 _ e => (match x8, e with | none, e => zl hy 2 (pc2 := 34) (lv2 := [(3, .null), (2, .null), (0, .ref l0), (1, .int l1)]) (st2 := [.null]) rfl <| zx_nullN hy rfl <| zt_sub (z_fc rfl (z_fc rfl (z_fn))) <| sfB_isShelfFalling_61 N (fB_isShelfFalling_2 N n ) ih l0 l1 h9 _ e | some x10, e => zl hy 2 (pc2 := 34) (lv2 := [(3, .ref x10), (2, .null), (0, .ref l0), (1, .int l1)]) (st2 := [.null]) rfl <| zx_nullN hy rfl <| zt_sub (z_fc rfl (z_fc rfl (z_fn))) <| sfB_isShelfFalling_61 N (fB_isShelfFalling_2 N n ) ih l0 l1 h9 _ e) | some x6, e => zl hy 2 (pc2 := 23) (lv2 := [(2, .ref x6), (0, .ref l0), (1, .int l1)]) (st2 := [.ref l0]) rfl <| zx_gR hy rfl e fun x11 _ e => zl hy 3 (pc2 := 29) (lv2 := [(2, .ref x6), (0, .ref l0), (1, .int l1)]) (st2 := [.int (l1 - (Int32.ofInt 1)), .ref x11]) rfl <| zx_call hy (as := [.ref x11, .int (l1 - (Int32.ofInt 1))]) (rest := []) (ov := (fun v => some (va_rf v))) (fun _ => rfl) rfl rfl (Or.inl rfl) rfl rfl (Nat.le_of_ble_eq_true rfl) (Nat.le_of_ble_eq_true rfl) (fun _ e _ => z_rcvT (rfS_keptAt N x11 (l1 - (Int32.ofInt 1)) h5 _ e)) (fun _ e => zt_deep (Nat.le_of_ble_eq_true rfl) (sfS_keptAt N x11 (l1 - (Int32.ofInt 1)) h5 _ e)) e fun x12 h13 _ e => (match x12, e with | none, e => zl hy 2 (pc2 := 34) (lv2 := [(3, .null), (2, .ref x6), (0, .ref l0), (1, .int l1)]) (st2 := [.ref x6]) rfl <| zx_nullR hy rfl e fun e => zl hy 1 (pc2 := 38) (lv2 := [(3, .null), (2, .ref x6), (0, .ref l0), (1, .int l1)]) (st2 := [.null]) rfl <| zx_nullN hy rfl <| zt_sub (z_fc rfl (z_fc rfl (z_fn))) <| sfB_isShelfFalling_61 N (fB_isShelfFalling_2 N n ) ih l0 l1 h13 _ e | some x14, e => zl hy 2 (pc2 := 34) (lv2 := [(3, .ref x14), (2, .ref x6), (0, .ref l0), (1, .int l1)]) (st2 := [.ref x6]) rfl <| zx_nullR hy rfl e fun e => zl hy 1 (pc2 := 38) (lv2 := [(3, .ref x14), (2, .ref x6), (0, .ref l0), (1, .int l1)]) (st2 := [.ref x14]) rfl <| zx_nullR hy rfl e fun e => zl hy 3 (pc2 := 44) (lv2 := [(3, .ref x14), (2, .ref x6), (0, .ref l0), (1, .int l1)]) (st2 := [.ref x6, .int (Int32.ofInt 0), .ref x6]) rfl <| zx_gI hy rfl e fun x15 _ e => zl hy 3 (pc2 := 50) (lv2 := [(3, .ref x14), (2, .ref x6), (0, .ref l0), (1, .int l1)]) (st2 := [.ref x14, .int (Int32.ofInt 0), .ref x14, .int x15, .int (Int32.ofInt 0), .ref x6]) rfl <| zx_gI hy rfl e fun x16 _ e => zx_call hy (as := [.ref x6, .int (Int32.ofInt 0), .int x15, .ref x14, .int (Int32.ofInt 0), .int x16]) (rest := []) (ov := (fun v => some (.int v))) (fun _ => rfl) rfl rfl (Or.inl rfl) rfl rfl (Nat.le_of_ble_eq_true rfl) (Nat.le_of_ble_eq_true rfl) (fun _ e _ => z_rcvT (rfW_order N x6 (Int32.ofInt 0) x15 x14 (Int32.ofInt 0) x16 h13 _ e)) (fun _ e => zt_deep (Nat.le_of_ble_eq_true rfl) (sfW_order N x6 (Int32.ofInt 0) x15 x14 (Int32.ofInt 0) x16 h13 _ e)) e fun x17 h18 _ e => zx_c0 hy rfl e (fun _ e => zt_sub (z_fc rfl (z_fc rfl (z_fn))) <| sfB_isShelfFalling_61 N (fB_isShelfFalling_2 N n ) ih l0 l1 h18 _ e) (fun _ e => zl hy 1 (pc2 := 60) (lv2 := [(3, .ref x14), (2, .ref x6), (0, .ref l0), (1, .int l1)]) (st2 := [.int (Int32.ofInt 0)]) rfl <| zx_ret hy (v := .int (Int32.ofInt 0)) rfl rfl (by decide) rfl e))))
def fB_isShelfFalling (N : Nat) (l0 : Nat) (h : zH) : Option (Int32 × zH) := cond (fT h l0 0) (fB_isShelfFalling_2 N N  l0 (Int32.ofInt 1) h) none
theorem sfB_isShelfFalling {xs : List Int32} (N : Nat) (l0 : Nat) (h : zH) (r : Int32 × zH) (e : fB_isShelfFalling N l0 h = some r) : zt xs (3) 129 0 [(0, .ref l0)] [] h 0 0 (zQ cI r) := by
  have hy := mfB_isShelfFalling_m
  unfold fB_isShelfFalling at e
  replace e := (cond_some e).2
  exact zl hy 2 (pc2 := 2) (lv2 := [(1, .int (Int32.ofInt 1)), (0, .ref l0)]) (st2 := []) rfl <| zt_sub (z_fc rfl (z_fc rfl (z_fn))) <| sfB_isShelfFalling_2 N   N l0 (Int32.ofInt 1) h _ e
theorem rfB_isShelfFalling (N : Nat) (l0 : Nat) (h : zH) (r : Int32 × zH) (e : fB_isShelfFalling N l0 h = some r) : fT h l0 0 = true := by
  unfold fB_isShelfFalling at e
  exact (cond_some e).1
/-- LyndonBench.greatestKept()I -/
theorem mfB_greatestKept : z_me 130 zc_130 1 [] (some .int) := ⟨z_me0 rfl, rfl, rfl, rfl⟩
def fB_greatestKept (N : Nat) (l0 : Nat) (h : zH) : Option (Int32 × zH) := cond (fT h l0 0) (b1 (fR h l0 0 0) fun x1 => b2 (fS_greatestOfShelf N x1 (Int32.ofInt 0) h) fun x2 h3 => some (x2, h3)) none
theorem sfB_greatestKept {xs : List Int32} (N : Nat) (l0 : Nat) (h : zH) (r : Int32 × zH) (e : fB_greatestKept N l0 h = some r) : zt xs (4) 130 0 [(0, .ref l0)] [] h 0 0 (zQ cI r) := by
  have hy := mfB_greatestKept
  unfold fB_greatestKept at e
  replace e := (cond_some e).2
  exact zl hy 1 (pc2 := 1) (lv2 := [(0, .ref l0)]) (st2 := [.ref l0]) rfl <| zx_gR hy rfl e fun x1 _ e => zl hy 1 (pc2 := 5) (lv2 := [(0, .ref l0)]) (st2 := [.int (Int32.ofInt 0), .ref x1]) rfl <| zx_call hy (as := [.ref x1, .int (Int32.ofInt 0)]) (rest := []) (ov := (fun v => some (.int v))) (fun _ => rfl) rfl rfl (Or.inl rfl) rfl rfl (Nat.le_of_ble_eq_true rfl) (Nat.le_of_ble_eq_true rfl) (fun _ e _ => z_rcvT (rfS_greatestOfShelf N x1 (Int32.ofInt 0) h _ e)) (fun _ e => zt_deep (Nat.le_of_ble_eq_true rfl) (sfS_greatestOfShelf N x1 (Int32.ofInt 0) h _ e)) e fun x2 h3 _ e => zx_ret hy rfl rfl rfl rfl e
theorem rfB_greatestKept (N : Nat) (l0 : Nat) (h : zH) (r : Int32 × zH) (e : fB_greatestKept N l0 h = some r) : fT h l0 0 = true := by
  unfold fB_greatestKept at e
  exact (cond_some e).1
/-- LyndonBench.meanFactor()D -/
theorem mfB_meanFactor : z_me 131 zc_131 2 [] (some .double) := ⟨z_me0 rfl, rfl, rfl, rfl⟩
def fB_meanFactor_33 (N : Nat)  (s0 : UInt64) (h : zH) : Option (UInt64 × zH) := some (s0, h)
theorem sfB_meanFactor_33 {xs : List Int32} (N : Nat)   (s0 : UInt64) (h : zH) (r : UInt64 × zH) (e : fB_meanFactor_33 N  s0 h = some r) : zt xs (5) 131 33 [] [.double s0] h 0 0 (zQ cD r) := by
  have hy := mfB_meanFactor
  unfold fB_meanFactor_33 at e
  exact zx_ret hy rfl rfl rfl rfl e
def fB_meanFactor (N : Nat) (l0 : Nat) (h : zH) : Option (UInt64 × zH) := cond (fT h l0 0) (b1 (fR h l0 0 0) fun x1 => b1 (fR h x1 3 1) fun x2 => b2 (fW_countFactors N x2 h) fun x3 h4 => cond (z_cmp .ne x3 (Int32.ofInt 0)) (b1 (fR h4 l0 0 0) fun x5 => b1 (fR h4 x5 3 1) fun x6 => b1 (fI h4 x6 4 1) fun x7 => (if FP.ddiv (FP.i2d x7) (FP.i2d x3) &&& 0x7fffffffffffffff ≤ 0x7ff0000000000000 then fB_meanFactor_33 N  (FP.ddiv (FP.i2d x7) (FP.i2d x3)) h4 else none)) (fB_meanFactor_33 N  FP.dconst0 h4)) none
theorem sfB_meanFactor {xs : List Int32} (N : Nat) (l0 : Nat) (h : zH) (r : UInt64 × zH) (e : fB_meanFactor N l0 h = some r) : zt xs (5) 131 0 [(0, .ref l0)] [] h 0 0 (zQ cD r) := by
  have hy := mfB_meanFactor
  unfold fB_meanFactor at e
  replace e := (cond_some e).2
  exact zl hy 1 (pc2 := 1) (lv2 := [(0, .ref l0)]) (st2 := [.ref l0]) rfl <| zx_gR hy rfl e fun x1 _ e => zx_gR hy rfl e fun x2 _ e => zx_call hy (as := [.ref x2]) (rest := []) (ov := (fun v => some (.int v))) (fun _ => rfl) rfl rfl (Or.inl rfl) rfl rfl (Nat.le_of_ble_eq_true rfl) (Nat.le_of_ble_eq_true rfl) (fun _ e _ => z_rcvT (rfW_countFactors N x2 h _ e)) (fun _ e => zt_deep (Nat.le_of_ble_eq_true rfl) (sfW_countFactors N x2 h _ e)) e fun x3 h4 _ e => zl hy 2 (pc2 := 12) (lv2 := [(1, .int x3), (0, .ref l0)]) (st2 := [.int x3]) rfl <| zx_c0 hy rfl e (fun _ e => zl hy 1 (pc2 := 20) (lv2 := [(1, .int x3), (0, .ref l0)]) (st2 := [.ref l0]) rfl <| zx_gR hy rfl e fun x5 _ e => zx_gR hy rfl e fun x6 _ e => zx_gI hy rfl e fun x7 _ e => zl hy 3 (pc2 := 32) (lv2 := [(1, .int x3), (0, .ref l0)]) (st2 := [.double (FP.i2d x3), .double (FP.i2d x7)]) rfl <| zx_ddiv hy (G := fun _ => fB_meanFactor_33 N  (FP.ddiv (FP.i2d x7) (FP.i2d x3)) h4) rfl e fun e => zt_sub (z_fn) <| sfB_meanFactor_33 N   (FP.ddiv (FP.i2d x7) (FP.i2d x3)) h4 _ e) (fun _ e => zl hy 2 (pc2 := 33) (lv2 := [(1, .int x3), (0, .ref l0)]) (st2 := [.double FP.dconst0]) rfl <| zt_sub (z_fn) <| sfB_meanFactor_33 N   FP.dconst0 h4 _ e)
theorem rfB_meanFactor (N : Nat) (l0 : Nat) (h : zH) (r : UInt64 × zH) (e : fB_meanFactor N l0 h = some r) : fT h l0 0 = true := by
  unfold fB_meanFactor at e
  exact (cond_some e).1
/-- LyndonBench.lyndonShare()F -/
theorem mfB_lyndonShare : z_me 132 zc_132 3 [] (some .float) := ⟨z_me0 rfl, rfl, rfl, rfl⟩
abbrev zC_132_47 : List zE := [(47, .freturn, 1, 0, 0)]
theorem mfB_lyndonShare_47 : z_me 132 zC_132_47 3 [] (some .float) := ⟨z_me1 (cd := zc_132) rfl (by decide +kernel), rfl, rfl, rfl⟩
abbrev zC_132_m : List zE := [(0, .aload_n 0, 1, 0, 0), (1, .getfield 12, 3, 0, 0), (4, .getfield 113, 3, 3, 0), (7, .bipush 6, 2, 0, 0), (9, .getstatic 268, 3, 0, 13), (12, .invokestatic 272, 3, 142, 3), (15, .l2f, 1, 0, 0), (16, .fstore_n 1, 1, 0, 0), (17, .aload_n 0, 1, 0, 0), (18, .getfield 12, 3, 0, 0), (21, .getfield 113, 3, 3, 0), (24, .bipush 6, 2, 0, 0), (26, .getstatic 276, 3, 0, 14), (29, .invokestatic 272, 3, 142, 3), (32, .l2f, 1, 0, 0), (33, .fstore_n 2, 1, 0, 0), (34, .fload_n 2, 1, 0, 0), (35, .fconst 0, 1, 0, 0), (36, .fcmp .l, 1, 0, 0), (37, .ifCond .le 9, 3, 46, 0), (40, .fload_n 1, 1, 0, 0), (41, .fload_n 2, 1, 0, 0), (42, .fdiv, 1, 0, 0), (43, .goto 4, 3, 47, 0), (46, .fconst 0, 1, 0, 0)]
theorem mfB_lyndonShare_m : z_me 132 zC_132_m 3 [] (some .float) := ⟨z_me1 (cd := zc_132) rfl (by decide +kernel), rfl, rfl, rfl⟩
def fB_lyndonShare_47 (N : Nat)  (s0 : UInt32) (h : zH) : Option (UInt32 × zH) := some (s0, h)
theorem sfB_lyndonShare_47 {xs : List Int32} (N : Nat)   (s0 : UInt32) (h : zH) (r : UInt32 × zH) (e : fB_lyndonShare_47 N  s0 h = some r) : zt xs (3) 132 47 [] [.float s0] h 0 0 (zQ cF r) := by
  have hy := mfB_lyndonShare_47
  unfold fB_lyndonShare_47 at e
  exact zx_ret hy rfl rfl rfl rfl e
def fB_lyndonShare (N : Nat) (l0 : Nat) (h : zH) : Option (UInt32 × zH) := cond (fT h l0 0) (b1 (fR h l0 0 0) fun x1 => b1 (fI h x1 3 0) fun x2 => b2 (fB_weighPowers N x2 (Int32.ofInt 6) 1000013 h) fun x3 h4 => b1 (fR h4 l0 0 0) fun x5 => b1 (fI h4 x5 3 0) fun x6 => b2 (fB_weighPowers N x6 (Int32.ofInt 6) 1000014 h4) fun x7 h8 => cond (z_cmp .le (Op.cmpValue (FP.fcmp (FP.l2f x7) FP.fconst0) .l) (Int32.ofInt 0)) (fB_lyndonShare_47 N  FP.fconst0 h8) ((if FP.fdiv (FP.l2f x3) (FP.l2f x7) &&& 0x7fffffff ≤ 0x7f800000 then fB_lyndonShare_47 N  (FP.fdiv (FP.l2f x3) (FP.l2f x7)) h8 else none))) none
theorem sfB_lyndonShare {xs : List Int32} (N : Nat) (l0 : Nat) (h : zH) (r : UInt32 × zH) (e : fB_lyndonShare N l0 h = some r) : zt xs (3) 132 0 [(0, .ref l0)] [] h 0 0 (zQ cF r) := by
  have hy := mfB_lyndonShare_m
  unfold fB_lyndonShare at e
  replace e := (cond_some e).2
  exact zl hy 1 (pc2 := 1) (lv2 := [(0, .ref l0)]) (st2 := [.ref l0]) rfl <| zx_gR hy rfl e fun x1 _ e => zx_gI hy rfl e fun x2 _ e => zx_bip hy (c := 6) rfl (by decide) <| zx_gs hy (v := .ref 1000013) rfl rfl rfl <| zx_call hy (as := [.int x2, .int (Int32.ofInt 6), .ref 1000013]) (rest := []) (ov := (fun v => some (.long v))) (fun _ => rfl) rfl rfl (Or.inr (Or.inl rfl)) rfl rfl (Nat.le_of_ble_eq_true rfl) (Nat.le_of_ble_eq_true rfl) (fun _ _ hz => absurd rfl hz) (fun _ e => zt_deep (Nat.le_of_ble_eq_true rfl) (sfB_weighPowers N x2 (Int32.ofInt 6) 1000013 h _ e)) e fun x3 h4 _ e => zl hy 3 (pc2 := 18) (lv2 := [(1, .float (FP.l2f x3)), (0, .ref l0)]) (st2 := [.ref l0]) rfl <| zx_gR hy rfl e fun x5 _ e => zx_gI hy rfl e fun x6 _ e => zx_bip hy (c := 6) rfl (by decide) <| zx_gs hy (v := .ref 1000014) rfl rfl rfl <| zx_call hy (as := [.int x6, .int (Int32.ofInt 6), .ref 1000014]) (rest := []) (ov := (fun v => some (.long v))) (fun _ => rfl) rfl rfl (Or.inr (Or.inl rfl)) rfl rfl (Nat.le_of_ble_eq_true rfl) (Nat.le_of_ble_eq_true rfl) (fun _ _ hz => absurd rfl hz) (fun _ e => zt_deep (Nat.le_of_ble_eq_true rfl) (sfB_weighPowers N x6 (Int32.ofInt 6) 1000014 h4 _ e)) e fun x7 h8 _ e => zl hy 5 (pc2 := 37) (lv2 := [(2, .float (FP.l2f x7)), (1, .float (FP.l2f x3)), (0, .ref l0)]) (st2 := [.int (Op.cmpValue (FP.fcmp (FP.l2f x7) FP.fconst0) .l)]) rfl <| zx_c0 hy rfl e (fun _ e => zl hy 1 (pc2 := 47) (lv2 := [(2, .float (FP.l2f x7)), (1, .float (FP.l2f x3)), (0, .ref l0)]) (st2 := [.float FP.fconst0]) rfl <| zt_sub (z_fn) <| sfB_lyndonShare_47 N   FP.fconst0 h8 _ e) (fun _ e => zl hy 2 (pc2 := 42) (lv2 := [(2, .float (FP.l2f x7)), (1, .float (FP.l2f x3)), (0, .ref l0)]) (st2 := [.float (FP.l2f x7), .float (FP.l2f x3)]) rfl <| zx_fdiv hy (G := fun _ => fB_lyndonShare_47 N  (FP.fdiv (FP.l2f x3) (FP.l2f x7)) h8) rfl e fun e => zl hy 1 (pc2 := 47) (lv2 := [(2, .float (FP.l2f x7)), (1, .float (FP.l2f x3)), (0, .ref l0)]) (st2 := [.float (FP.fdiv (FP.l2f x3) (FP.l2f x7))]) rfl <| zt_sub (z_fn) <| sfB_lyndonShare_47 N   (FP.fdiv (FP.l2f x3) (FP.l2f x7)) h8 _ e)
theorem rfB_lyndonShare (N : Nat) (l0 : Nat) (h : zH) (r : UInt32 × zH) (e : fB_lyndonShare N l0 h = some r) : fT h l0 0 = true := by
  unfold fB_lyndonShare at e
  exact (cond_some e).1
/-- LyndonBench.violations()I -/
theorem mfB_violations : z_me 133 zc_133 7 [] (some .int) := ⟨z_me0 rfl, rfl, rfl, rfl⟩
abbrev zC_133_125 : List zE := [(125, .iload_n 2, 1, 0, 0), (126, .ireturn, 1, 0, 0)]
theorem mfB_violations_125 : z_me 133 zC_133_125 7 [] (some .int) := ⟨z_me1 (cd := zc_133) rfl (by decide +kernel), rfl, rfl, rfl⟩
abbrev zC_133_106 : List zE := [(106, .aload_n 1, 1, 0, 0), (107, .getfield 70, 3, 4, 1), (110, .ifCond .le 15, 3, 125, 0), (113, .iload_n 3, 1, 0, 0), (114, .aload_n 1, 1, 0, 0), (115, .iconst (-1), 1, 0, 0), (116, .invokevirtual 262, 3, 74, 1), (119, .if_icmp .eq 6, 3, 125, 0), (122, .iinc 2 1, 3, 0, 0)]
theorem mfB_violations_106 : z_me 133 zC_133_106 7 [] (some .int) := ⟨z_me1 (cd := zc_133) rfl (by decide +kernel), rfl, rfl, rfl⟩
abbrev zC_133_94 : List zE := [(94, .iload 4, 2, 0, 0), (96, .aload_n 1, 1, 0, 0), (97, .getfield 70, 3, 4, 1), (100, .if_icmp .eq 6, 3, 106, 0), (103, .iinc 2 1, 3, 0, 0)]
theorem mfB_violations_94 : z_me 133 zC_133_94 7 [] (some .int) := ⟨z_me1 (cd := zc_133) rfl (by decide +kernel), rfl, rfl, rfl⟩
abbrev zC_133_81 : List zE := [(81, .iload 4, 2, 0, 0), (83, .istore_n 3, 1, 0, 0), (84, .iload 6, 2, 0, 0), (86, .istore 4, 2, 0, 0), (88, .iinc 5 1, 3, 0, 0), (91, .goto (-73), 3, 18, 0)]
theorem mfB_violations_81 : z_me 133 zC_133_81 7 [] (some .int) := ⟨z_me1 (cd := zc_133) rfl (by decide +kernel), rfl, rfl, rfl⟩
abbrev zC_133_58 : List zE := [(58, .iload 5, 2, 0, 0), (60, .ifCond .le 21, 3, 81, 0), (63, .aload_n 1, 1, 0, 0), (64, .iload 4, 2, 0, 0), (66, .iload 6, 2, 0, 0), (68, .aload_n 1, 1, 0, 0), (69, .iload_n 3, 1, 0, 0), (70, .iload 4, 2, 0, 0), (72, .invokevirtual 226, 3, 58, 5), (75, .ifCond .le 6, 3, 81, 0), (78, .iinc 2 1, 3, 0, 0)]
theorem mfB_violations_58 : z_me 133 zC_133_58 7 [] (some .int) := ⟨z_me1 (cd := zc_133) rfl (by decide +kernel), rfl, rfl, rfl⟩
abbrev zC_133_18 : List zE := [(18, .iload 5, 2, 0, 0), (20, .aload_n 1, 1, 0, 0), (21, .getfield 70, 3, 4, 1), (24, .if_icmp .ge 70, 3, 94, 0), (27, .iload 4, 2, 0, 0), (29, .aload_n 1, 1, 0, 0), (30, .getfield 70, 3, 4, 1), (33, .if_icmp .ge 61, 3, 94, 0), (36, .aload_n 1, 1, 0, 0), (37, .iload 4, 2, 0, 0), (39, .invokevirtual 175, 3, 59, 1), (42, .istore 6, 2, 0, 0), (44, .aload_n 1, 1, 0, 0), (45, .iload 4, 2, 0, 0), (47, .iload 6, 2, 0, 0), (49, .invokevirtual 289, 3, 67, 2), (52, .ifCond .ne 6, 3, 58, 0), (55, .iinc 2 1, 3, 0, 0)]
theorem mfB_violations_18 : z_me 133 zC_133_18 7 [] (some .int) := ⟨z_me1 (cd := zc_133) rfl (by decide +kernel), rfl, rfl, rfl⟩
abbrev zC_133_m : List zE := [(0, .aload_n 0, 1, 0, 0), (1, .getfield 12, 3, 0, 0), (4, .getfield 52, 3, 3, 1), (7, .astore_n 1, 1, 0, 0), (8, .iconst 0, 1, 0, 0), (9, .istore_n 2, 1, 0, 0), (10, .iconst 0, 1, 0, 0), (11, .istore_n 3, 1, 0, 0), (12, .iconst 0, 1, 0, 0), (13, .istore 4, 2, 0, 0), (15, .iconst 0, 1, 0, 0), (16, .istore 5, 2, 0, 0)]
theorem mfB_violations_m : z_me 133 zC_133_m 7 [] (some .int) := ⟨z_me1 (cd := zc_133) rfl (by decide +kernel), rfl, rfl, rfl⟩
def fB_violations_125 (N : Nat)  (l2 : Int32) (h : zH) : Option (Int32 × zH) := some (l2, h)
theorem sfB_violations_125 {xs : List Int32} (N : Nat)   (l2 : Int32) (h : zH) (r : Int32 × zH) (e : fB_violations_125 N  l2 h = some r) : zt xs (4) 133 125 [(2, .int l2)] [] h 0 0 (zQ cI r) := by
  have hy := mfB_violations_125
  unfold fB_violations_125 at e
  exact zl hy 1 (pc2 := 126) (lv2 := [(2, .int l2)]) (st2 := [.int l2]) rfl <| zx_ret hy rfl rfl rfl rfl e
def fB_violations_106 (N : Nat)  (l1 : Nat) (l2 : Int32) (l3 : Int32) (h : zH) : Option (Int32 × zH) := b1 (fI h l1 4 1) fun x5 => cond (z_cmp .le x5 (Int32.ofInt 0)) (fB_violations_125 N  l2 h) (b2 (fW_extremeEnding N l1 (Int32.ofInt (-1)) h) fun x6 h7 => cond (z_cmp .eq l3 x6) (fB_violations_125 N  l2 h7) (fB_violations_125 N  (l2 + Int32.ofInt 1) h7))
theorem sfB_violations_106 {xs : List Int32} (N : Nat)   (l1 : Nat) (l2 : Int32) (l3 : Int32) (h : zH) (r : Int32 × zH) (e : fB_violations_106 N  l1 l2 l3 h = some r) : zt xs (4) 133 106 [(1, .ref l1), (2, .int l2), (3, .int l3)] [] h 0 0 (zQ cI r) := by
  have hy := mfB_violations_106
  unfold fB_violations_106 at e
  exact zl hy 1 (pc2 := 107) (lv2 := [(1, .ref l1), (2, .int l2), (3, .int l3)]) (st2 := [.ref l1]) rfl <| zx_gI hy rfl e fun x5 _ e => zx_c0 hy rfl e (fun _ e => zt_sub (z_fc rfl (z_fn)) <| sfB_violations_125 N   l2 h _ e) (fun _ e => zl hy 3 (pc2 := 116) (lv2 := [(1, .ref l1), (2, .int l2), (3, .int l3)]) (st2 := [.int (Int32.ofInt (-1)), .ref l1, .int l3]) rfl <| zx_call hy (as := [.ref l1, .int (Int32.ofInt (-1))]) (rest := [.int l3]) (ov := (fun v => some (.int v))) (fun _ => rfl) rfl rfl (Or.inl rfl) rfl rfl (Nat.le_of_ble_eq_true rfl) (Nat.le_of_ble_eq_true rfl) (fun _ e _ => z_rcvT (rfW_extremeEnding N l1 (Int32.ofInt (-1)) h _ e)) (fun _ e => zt_deep (Nat.le_of_ble_eq_true rfl) (sfW_extremeEnding N l1 (Int32.ofInt (-1)) h _ e)) e fun x6 h7 _ e => zx_c hy rfl e (fun _ e => zt_sub (z_fc rfl (z_fn)) <| sfB_violations_125 N   l2 h7 _ e) (fun _ e => zl hy 1 (pc2 := 125) (lv2 := [(2, .int (l2 + Int32.ofInt 1)), (1, .ref l1), (3, .int l3)]) (st2 := []) rfl <| zt_sub (z_fc rfl (z_fn)) <| sfB_violations_125 N   (l2 + Int32.ofInt 1) h7 _ e))
def fB_violations_94 (N : Nat)  (l1 : Nat) (l2 : Int32) (l3 : Int32) (l4 : Int32) (h : zH) : Option (Int32 × zH) := b1 (fI h l1 4 1) fun x4 => cond (z_cmp .eq l4 x4) (fB_violations_106 N  l1 l2 l3 h) (fB_violations_106 N  l1 (l2 + Int32.ofInt 1) l3 h)
theorem sfB_violations_94 {xs : List Int32} (N : Nat)   (l1 : Nat) (l2 : Int32) (l3 : Int32) (l4 : Int32) (h : zH) (r : Int32 × zH) (e : fB_violations_94 N  l1 l2 l3 l4 h = some r) : zt xs (4) 133 94 [(1, .ref l1), (2, .int l2), (3, .int l3), (4, .int l4)] [] h 0 0 (zQ cI r) := by
  have hy := mfB_violations_94
  unfold fB_violations_94 at e
  exact zl hy 2 (pc2 := 97) (lv2 := [(1, .ref l1), (2, .int l2), (3, .int l3), (4, .int l4)]) (st2 := [.ref l1, .int l4]) rfl <| zx_gI hy rfl e fun x4 _ e => zx_c hy rfl e (fun _ e => zt_sub (z_fc rfl (z_fc rfl (z_fc rfl (z_fn)))) <| sfB_violations_106 N   l1 l2 l3 h _ e) (fun _ e => zl hy 1 (pc2 := 106) (lv2 := [(2, .int (l2 + Int32.ofInt 1)), (1, .ref l1), (3, .int l3), (4, .int l4)]) (st2 := []) rfl <| zt_sub (z_fc rfl (z_fc rfl (z_fc rfl (z_fn)))) <| sfB_violations_106 N   l1 (l2 + Int32.ofInt 1) l3 h _ e)
def fB_violations_81 (N : Nat) (k18 : Nat → Int32 → Int32 → Int32 → Int32 → zH → Option (Int32 × zH)) (l1 : Nat) (l2 : Int32) (l4 : Int32) (l5 : Int32) (l6 : Int32) (h : zH) : Option (Int32 × zH) := k18 l1 l2 l4 l6 (l5 + Int32.ofInt 1) h
theorem sfB_violations_81 {xs : List Int32} (N : Nat) (k18 : Nat → Int32 → Int32 → Int32 → Int32 → zH → Option (Int32 × zH))  (hk18 : ∀ (l1 : Nat) (l2 : Int32) (l3 : Int32) (l4 : Int32) (l5 : Int32) (h : zH) (r : Int32 × zH), k18 l1 l2 l3 l4 l5 h = some r → zt xs (4) 133 18 [(1, .ref l1), (2, .int l2), (3, .int l3), (4, .int l4), (5, .int l5)] [] h 0 0 (zQ cI r)) (l1 : Nat) (l2 : Int32) (l4 : Int32) (l5 : Int32) (l6 : Int32) (h : zH) (r : Int32 × zH) (e : fB_violations_81 N k18 l1 l2 l4 l5 l6 h = some r) : zt xs (4) 133 81 [(1, .ref l1), (2, .int l2), (4, .int l4), (5, .int l5), (6, .int l6)] [] h 0 0 (zQ cI r) := by
  have hy := mfB_violations_81
  unfold fB_violations_81 at e
  exact zl hy 6 (pc2 := 18) (lv2 := [(5, .int (l5 + Int32.ofInt 1)), (4, .int l6), (3, .int l4), (1, .ref l1), (2, .int l2), (6, .int l6)]) (st2 := []) rfl <| zt_sub (z_fc rfl (z_fc rfl (z_fc rfl (z_fc rfl (z_fc rfl (z_fn)))))) <| hk18 l1 l2 l4 l6 (l5 + Int32.ofInt 1) h _ e
def fB_violations_58 (N : Nat) (k18 : Nat → Int32 → Int32 → Int32 → Int32 → zH → Option (Int32 × zH)) (l1 : Nat) (l2 : Int32) (l3 : Int32) (l4 : Int32) (l5 : Int32) (l6 : Int32) (h : zH) : Option (Int32 × zH) := cond (z_cmp .le l5 (Int32.ofInt 0)) (fB_violations_81 N k18 l1 l2 l4 l5 l6 h) (b2 (fW_order N l1 l4 l6 l1 l3 l4 h) fun x9 h10 => cond (z_cmp .le x9 (Int32.ofInt 0)) (fB_violations_81 N k18 l1 l2 l4 l5 l6 h10) (fB_violations_81 N k18 l1 (l2 + Int32.ofInt 1) l4 l5 l6 h10))
theorem sfB_violations_58 {xs : List Int32} (N : Nat) (k18 : Nat → Int32 → Int32 → Int32 → Int32 → zH → Option (Int32 × zH))  (hk18 : ∀ (l1 : Nat) (l2 : Int32) (l3 : Int32) (l4 : Int32) (l5 : Int32) (h : zH) (r : Int32 × zH), k18 l1 l2 l3 l4 l5 h = some r → zt xs (4) 133 18 [(1, .ref l1), (2, .int l2), (3, .int l3), (4, .int l4), (5, .int l5)] [] h 0 0 (zQ cI r)) (l1 : Nat) (l2 : Int32) (l3 : Int32) (l4 : Int32) (l5 : Int32) (l6 : Int32) (h : zH) (r : Int32 × zH) (e : fB_violations_58 N k18 l1 l2 l3 l4 l5 l6 h = some r) : zt xs (4) 133 58 [(1, .ref l1), (2, .int l2), (3, .int l3), (4, .int l4), (5, .int l5), (6, .int l6)] [] h 0 0 (zQ cI r) := by
  have hy := mfB_violations_58
  unfold fB_violations_58 at e
  exact zl hy 1 (pc2 := 60) (lv2 := [(1, .ref l1), (2, .int l2), (3, .int l3), (4, .int l4), (5, .int l5), (6, .int l6)]) (st2 := [.int l5]) rfl <| zx_c0 hy rfl e (fun _ e => zt_sub (z_fc rfl (z_fc rfl (z_fc rfl (z_fc rfl (z_fc rfl (z_fn)))))) <| sfB_violations_81 N k18 hk18 l1 l2 l4 l5 l6 h _ e) (fun _ e => zl hy 6 (pc2 := 72) (lv2 := [(1, .ref l1), (2, .int l2), (3, .int l3), (4, .int l4), (5, .int l5), (6, .int l6)]) (st2 := [.int l4, .int l3, .ref l1, .int l6, .int l4, .ref l1]) rfl <| zx_call hy (as := [.ref l1, .int l4, .int l6, .ref l1, .int l3, .int l4]) (rest := []) (ov := (fun v => some (.int v))) (fun _ => rfl) rfl rfl (Or.inl rfl) rfl rfl (Nat.le_of_ble_eq_true rfl) (Nat.le_of_ble_eq_true rfl) (fun _ e _ => z_rcvT (rfW_order N l1 l4 l6 l1 l3 l4 h _ e)) (fun _ e => zt_deep (Nat.le_of_ble_eq_true rfl) (sfW_order N l1 l4 l6 l1 l3 l4 h _ e)) e fun x9 h10 _ e => zx_c0 hy rfl e (fun _ e => zt_sub (z_fc rfl (z_fc rfl (z_fc rfl (z_fc rfl (z_fc rfl (z_fn)))))) <| sfB_violations_81 N k18 hk18 l1 l2 l4 l5 l6 h10 _ e) (fun _ e => zl hy 1 (pc2 := 81) (lv2 := [(2, .int (l2 + Int32.ofInt 1)), (1, .ref l1), (3, .int l3), (4, .int l4), (5, .int l5), (6, .int l6)]) (st2 := []) rfl <| zt_sub (z_fc rfl (z_fc rfl (z_fc rfl (z_fc rfl (z_fc rfl (z_fn)))))) <| sfB_violations_81 N k18 hk18 l1 (l2 + Int32.ofInt 1) l4 l5 l6 h10 _ e))
def fB_violations_18 (N : Nat) : Nat → Nat → Int32 → Int32 → Int32 → Int32 → zH → Option (Int32 × zH)
  | 0, _, _, _, _, _, _ => none
  | n + 1, l1, l2, l3, l4, l5, h => b1 (fI h l1 4 1) fun x3 => cond (z_cmp .ge l5 x3) (fB_violations_94 N  l1 l2 l3 l4 h) (b1 (fI h l1 4 1) fun x4 => cond (z_cmp .ge l4 x4) (fB_violations_94 N  l1 l2 l3 l4 h) (b2 (fW_lyndonEnd N l1 l4 h) fun x5 h6 => b2 (fW_isLyndonPart N l1 l4 x5 h6) fun x7 h8 => cond (z_cmp .ne x7 (Int32.ofInt 0)) (fB_violations_58 N (fB_violations_18 N n ) l1 l2 l3 l4 l5 x5 h8) (fB_violations_58 N (fB_violations_18 N n ) l1 (l2 + Int32.ofInt 1) l3 l4 l5 x5 h8)))
theorem sfB_violations_18 {xs : List Int32} (N : Nat)   : ∀ (n : Nat) (l1 : Nat) (l2 : Int32) (l3 : Int32) (l4 : Int32) (l5 : Int32) (h : zH) (r : Int32 × zH), fB_violations_18 N n  l1 l2 l3 l4 l5 h = some r → zt xs (4) 133 18 [(1, .ref l1), (2, .int l2), (3, .int l3), (4, .int l4), (5, .int l5)] [] h 0 0 (zQ cI r) := by
  have hy := mfB_violations_18
  intro n
  induction n with
  | zero =>
    intro l1 l2 l3 l4 l5 h r e
    rw [fB_violations_18] at e
    cases e
  | succ n ih =>
    intro l1 l2 l3 l4 l5 h r e
    rw [fB_violations_18] at e
    exact zl hy 2 (pc2 := 21) (lv2 := [(1, .ref l1), (2, .int l2), (3, .int l3), (4, .int l4), (5, .int l5)]) (st2 := [.ref l1, .int l5]) rfl <| zx_gI hy rfl e fun x3 _ e => zx_c hy rfl e (fun _ e => zt_sub (z_fc rfl (z_fc rfl (z_fc rfl (z_fc rfl (z_fn))))) <| sfB_violations_94 N   l1 l2 l3 l4 h _ e) (fun _ e => zl hy 2 (pc2 := 30) (lv2 := [(1, .ref l1), (2, .int l2), (3, .int l3), (4, .int l4), (5, .int l5)]) (st2 := [.ref l1, .int l4]) rfl <| zx_gI hy rfl e fun x4 _ e => zx_c hy rfl e (fun _ e => zt_sub (z_fc rfl (z_fc rfl (z_fc rfl (z_fc rfl (z_fn))))) <| sfB_violations_94 N   l1 l2 l3 l4 h _ e) (fun _ e => zl hy 2 (pc2 := 39) (lv2 := [(1, .ref l1), (2, .int l2), (3, .int l3), (4, .int l4), (5, .int l5)]) (st2 := [.int l4, .ref l1]) rfl <| zx_call hy (as := [.ref l1, .int l4]) (rest := []) (ov := (fun v => some (.int v))) (fun _ => rfl) rfl rfl (Or.inl rfl) rfl rfl (Nat.le_of_ble_eq_true rfl) (Nat.le_of_ble_eq_true rfl) (fun _ e _ => z_rcvT (rfW_lyndonEnd N l1 l4 h _ e)) (fun _ e => zt_deep (Nat.le_of_ble_eq_true rfl) (sfW_lyndonEnd N l1 l4 h _ e)) e fun x5 h6 _ e => zl hy 4 (pc2 := 49) (lv2 := [(6, .int x5), (1, .ref l1), (2, .int l2), (3, .int l3), (4, .int l4), (5, .int l5)]) (st2 := [.int x5, .int l4, .ref l1]) rfl <| zx_call hy (as := [.ref l1, .int l4, .int x5]) (rest := []) (ov := (fun v => some (.int v))) (fun _ => rfl) rfl rfl (Or.inl rfl) rfl rfl (Nat.le_of_ble_eq_true rfl) (Nat.le_of_ble_eq_true rfl) (fun _ e _ => z_rcvT (rfW_isLyndonPart N l1 l4 x5 h6 _ e)) (fun _ e => zt_deep (Nat.le_of_ble_eq_true rfl) (sfW_isLyndonPart N l1 l4 x5 h6 _ e)) e fun x7 h8 _ e => zx_c0 hy rfl e (fun _ e => zt_sub (z_fc rfl (z_fc rfl (z_fc rfl (z_fc rfl (z_fc rfl (z_fc rfl (z_fn))))))) <| sfB_violations_58 N (fB_violations_18 N n ) ih l1 l2 l3 l4 l5 x5 h8 _ e) (fun _ e => zl hy 1 (pc2 := 58) (lv2 := [(2, .int (l2 + Int32.ofInt 1)), (6, .int x5), (1, .ref l1), (3, .int l3), (4, .int l4), (5, .int l5)]) (st2 := []) rfl <| zt_sub (z_fc rfl (z_fc rfl (z_fc rfl (z_fc rfl (z_fc rfl (z_fc rfl (z_fn))))))) <| sfB_violations_58 N (fB_violations_18 N n ) ih l1 (l2 + Int32.ofInt 1) l3 l4 l5 x5 h8 _ e)))
def fB_violations (N : Nat) (l0 : Nat) (h : zH) : Option (Int32 × zH) := cond (fT h l0 0) (b1 (fR h l0 0 0) fun x1 => b1 (fR h x1 3 1) fun x2 => fB_violations_18 N N  x2 (Int32.ofInt 0) (Int32.ofInt 0) (Int32.ofInt 0) (Int32.ofInt 0) h) none
theorem sfB_violations {xs : List Int32} (N : Nat) (l0 : Nat) (h : zH) (r : Int32 × zH) (e : fB_violations N l0 h = some r) : zt xs (4) 133 0 [(0, .ref l0)] [] h 0 0 (zQ cI r) := by
  have hy := mfB_violations_m
  unfold fB_violations at e
  replace e := (cond_some e).2
  exact zl hy 1 (pc2 := 1) (lv2 := [(0, .ref l0)]) (st2 := [.ref l0]) rfl <| zx_gR hy rfl e fun x1 _ e => zx_gR hy rfl e fun x2 _ e => zl hy 9 (pc2 := 18) (lv2 := [(5, .int (Int32.ofInt 0)), (4, .int (Int32.ofInt 0)), (3, .int (Int32.ofInt 0)), (2, .int (Int32.ofInt 0)), (1, .ref x2), (0, .ref l0)]) (st2 := []) rfl <| zt_sub (z_fc rfl (z_fc rfl (z_fc rfl (z_fc rfl (z_fc rfl (z_fn)))))) <| sfB_violations_18 N   N x2 (Int32.ofInt 0) (Int32.ofInt 0) (Int32.ofInt 0) (Int32.ofInt 0) h _ e
theorem rfB_violations (N : Nat) (l0 : Nat) (h : zH) (r : Int32 × zH) (e : fB_violations N l0 h = some r) : fT h l0 0 = true := by
  unfold fB_violations at e
  exact (cond_some e).1
/-- LyndonBench.writeFactors()I -/
theorem mfB_writeFactors : z_me 134 zc_134 6 [] (some .int) := ⟨z_me0 rfl, rfl, rfl, rfl⟩
abbrev zC_134_115 : List zE := [(115, .aload_n 0, 1, 0, 0), (116, .getfield 42, 3, 0, 5), (119, .getfield 70, 3, 4, 1), (122, .ireturn, 1, 0, 0)]
theorem mfB_writeFactors_115 : z_me 134 zC_134_115 6 [] (some .int) := ⟨z_me1 (cd := zc_134) rfl (by decide +kernel), rfl, rfl, rfl⟩
abbrev zC_134_99 : List zE := [(99, .iload_n 2, 1, 0, 0), (100, .iload 5, 2, 0, 0), (102, .iload 4, 2, 0, 0), (104, .iload_n 2, 1, 0, 0), (105, .isub, 1, 0, 0), (106, .imul, 1, 0, 0), (107, .iadd, 1, 0, 0), (108, .istore_n 2, 1, 0, 0), (109, .iinc 3 1, 3, 0, 0), (112, .goto (-93), 3, 19, 0)]
theorem mfB_writeFactors_99 : z_me 134 zC_134_99 6 [] (some .int) := ⟨z_me1 (cd := zc_134) rfl (by decide +kernel), rfl, rfl, rfl⟩
abbrev zC_134_64 : List zE := [(64, .aload_n 0, 1, 0, 0), (65, .getfield 42, 3, 0, 5), (68, .aload_n 1, 1, 0, 0), (69, .iload_n 2, 1, 0, 0), (70, .iload 4, 2, 0, 0), (72, .invokevirtual 125, 3, 49, 3), (75, .iload 5, 2, 0, 0), (77, .iconst 1, 1, 0, 0), (78, .if_icmp .le 21, 3, 99, 0), (81, .aload_n 0, 1, 0, 0), (82, .getfield 42, 3, 0, 5), (85, .bipush 94, 2, 0, 0), (87, .invokevirtual 131, 3, 46, 1), (90, .aload_n 0, 1, 0, 0), (91, .getfield 42, 3, 0, 5), (94, .iload 5, 2, 0, 0), (96, .invokevirtual 292, 3, 50, 1)]
theorem mfB_writeFactors_64 : z_me 134 zC_134_64 6 [] (some .int) := ⟨z_me1 (cd := zc_134) rfl (by decide +kernel), rfl, rfl, rfl⟩
abbrev zC_134_19 : List zE := [(19, .iload_n 3, 1, 0, 0), (20, .aload_n 1, 1, 0, 0), (21, .getfield 70, 3, 4, 1), (24, .if_icmp .ge 91, 3, 115, 0), (27, .iload_n 2, 1, 0, 0), (28, .aload_n 1, 1, 0, 0), (29, .getfield 70, 3, 4, 1), (32, .if_icmp .ge 83, 3, 115, 0), (35, .aload_n 1, 1, 0, 0), (36, .iload_n 2, 1, 0, 0), (37, .invokevirtual 175, 3, 59, 1), (40, .istore 4, 2, 0, 0), (42, .aload_n 1, 1, 0, 0), (43, .iload_n 2, 1, 0, 0), (44, .iload 4, 2, 0, 0), (46, .invokevirtual 230, 3, 66, 2), (49, .istore 5, 2, 0, 0), (51, .iload_n 2, 1, 0, 0), (52, .ifCond .le 12, 3, 64, 0), (55, .aload_n 0, 1, 0, 0), (56, .getfield 42, 3, 0, 5), (59, .bipush 124, 2, 0, 0), (61, .invokevirtual 131, 3, 46, 1)]
theorem mfB_writeFactors_19 : z_me 134 zC_134_19 6 [] (some .int) := ⟨z_me1 (cd := zc_134) rfl (by decide +kernel), rfl, rfl, rfl⟩
abbrev zC_134_m : List zE := [(0, .aload_n 0, 1, 0, 0), (1, .getfield 12, 3, 0, 0), (4, .getfield 52, 3, 3, 1), (7, .astore_n 1, 1, 0, 0), (8, .aload_n 0, 1, 0, 0), (9, .getfield 42, 3, 0, 5), (12, .invokevirtual 90, 3, 45, 0), (15, .iconst 0, 1, 0, 0), (16, .istore_n 2, 1, 0, 0), (17, .iconst 0, 1, 0, 0), (18, .istore_n 3, 1, 0, 0)]
theorem mfB_writeFactors_m : z_me 134 zC_134_m 6 [] (some .int) := ⟨z_me1 (cd := zc_134) rfl (by decide +kernel), rfl, rfl, rfl⟩
def fB_writeFactors_115 (N : Nat)  (l0 : Nat) (h : zH) : Option (Int32 × zH) := b1 (fR h l0 0 5) fun x7 => b1 (fI h x7 4 1) fun x8 => some (x8, h)
theorem sfB_writeFactors_115 {xs : List Int32} (N : Nat)   (l0 : Nat) (h : zH) (r : Int32 × zH) (e : fB_writeFactors_115 N  l0 h = some r) : zt xs (5) 134 115 [(0, .ref l0)] [] h 0 0 (zQ cI r) := by
  have hy := mfB_writeFactors_115
  unfold fB_writeFactors_115 at e
  exact zl hy 1 (pc2 := 116) (lv2 := [(0, .ref l0)]) (st2 := [.ref l0]) rfl <| zx_gR hy rfl e fun x7 _ e => zx_gI hy rfl e fun x8 _ e => zx_ret hy rfl rfl rfl rfl e
def fB_writeFactors_99 (N : Nat) (k19 : Nat → Nat → Int32 → Int32 → zH → Option (Int32 × zH)) (l0 : Nat) (l1 : Nat) (l2 : Int32) (l3 : Int32) (l4 : Int32) (l5 : Int32) (h : zH) : Option (Int32 × zH) := k19 l0 l1 (l2 + (l5 * (l4 - l2))) (l3 + Int32.ofInt 1) h
theorem sfB_writeFactors_99 {xs : List Int32} (N : Nat) (k19 : Nat → Nat → Int32 → Int32 → zH → Option (Int32 × zH))  (hk19 : ∀ (l0 : Nat) (l1 : Nat) (l2 : Int32) (l3 : Int32) (h : zH) (r : Int32 × zH), k19 l0 l1 l2 l3 h = some r → zt xs (5) 134 19 [(0, .ref l0), (1, .ref l1), (2, .int l2), (3, .int l3)] [] h 0 0 (zQ cI r)) (l0 : Nat) (l1 : Nat) (l2 : Int32) (l3 : Int32) (l4 : Int32) (l5 : Int32) (h : zH) (r : Int32 × zH) (e : fB_writeFactors_99 N k19 l0 l1 l2 l3 l4 l5 h = some r) : zt xs (5) 134 99 [(0, .ref l0), (1, .ref l1), (2, .int l2), (3, .int l3), (4, .int l4), (5, .int l5)] [] h 0 0 (zQ cI r) := by
  have hy := mfB_writeFactors_99
  unfold fB_writeFactors_99 at e
  exact zl hy 10 (pc2 := 19) (lv2 := [(3, .int (l3 + Int32.ofInt 1)), (2, .int (l2 + (l5 * (l4 - l2)))), (0, .ref l0), (1, .ref l1), (4, .int l4), (5, .int l5)]) (st2 := []) rfl <| zt_sub (z_fc rfl (z_fc rfl (z_fc rfl (z_fc rfl (z_fn))))) <| hk19 l0 l1 (l2 + (l5 * (l4 - l2))) (l3 + Int32.ofInt 1) h _ e
def fB_writeFactors_64 (N : Nat) (k19 : Nat → Nat → Int32 → Int32 → zH → Option (Int32 × zH)) (l0 : Nat) (l1 : Nat) (l2 : Int32) (l3 : Int32) (l4 : Int32) (l5 : Int32) (h : zH) : Option (Int32 × zH) := b1 (fR h l0 0 5) fun x12 => b2 (fW_addPart N x12 l1 l2 l4 h) fun _ h14 => cond (z_cmp .le l5 (Int32.ofInt 1)) (fB_writeFactors_99 N k19 l0 l1 l2 l3 l4 l5 h14) (b1 (fR h14 l0 0 5) fun x15 => b2 (fW_add N x15 (Int32.ofInt 94) h14) fun _ h17 => b1 (fR h17 l0 0 5) fun x18 => b2 (fW_addNumber N x18 l5 h17) fun _ h20 => fB_writeFactors_99 N k19 l0 l1 l2 l3 l4 l5 h20)
theorem sfB_writeFactors_64 {xs : List Int32} (N : Nat) (k19 : Nat → Nat → Int32 → Int32 → zH → Option (Int32 × zH))  (hk19 : ∀ (l0 : Nat) (l1 : Nat) (l2 : Int32) (l3 : Int32) (h : zH) (r : Int32 × zH), k19 l0 l1 l2 l3 h = some r → zt xs (5) 134 19 [(0, .ref l0), (1, .ref l1), (2, .int l2), (3, .int l3)] [] h 0 0 (zQ cI r)) (l0 : Nat) (l1 : Nat) (l2 : Int32) (l3 : Int32) (l4 : Int32) (l5 : Int32) (h : zH) (r : Int32 × zH) (e : fB_writeFactors_64 N k19 l0 l1 l2 l3 l4 l5 h = some r) : zt xs (5) 134 64 [(0, .ref l0), (1, .ref l1), (2, .int l2), (3, .int l3), (4, .int l4), (5, .int l5)] [] h 0 0 (zQ cI r) := by
  have hy := mfB_writeFactors_64
  unfold fB_writeFactors_64 at e
  exact zl hy 1 (pc2 := 65) (lv2 := [(0, .ref l0), (1, .ref l1), (2, .int l2), (3, .int l3), (4, .int l4), (5, .int l5)]) (st2 := [.ref l0]) rfl <| zx_gR hy rfl e fun x12 _ e => zl hy 3 (pc2 := 72) (lv2 := [(0, .ref l0), (1, .ref l1), (2, .int l2), (3, .int l3), (4, .int l4), (5, .int l5)]) (st2 := [.int l4, .int l2, .ref l1, .ref x12]) rfl <| zx_call hy (as := [.ref x12, .ref l1, .int l2, .int l4]) (rest := []) (ov := (fun _ => none)) (fun _ => rfl) rfl rfl (Or.inl rfl) rfl rfl (Nat.le_of_ble_eq_true rfl) (Nat.le_of_ble_eq_true rfl) (fun _ e _ => z_rcvT (rfW_addPart N x12 l1 l2 l4 h _ e)) (fun _ e => zt_deep (Nat.le_of_ble_eq_true rfl) (sfW_addPart N x12 l1 l2 l4 h _ e)) e fun _ h14 _ e => zl hy 2 (pc2 := 78) (lv2 := [(0, .ref l0), (1, .ref l1), (2, .int l2), (3, .int l3), (4, .int l4), (5, .int l5)]) (st2 := [.int (Int32.ofInt 1), .int l5]) rfl <| zx_c hy rfl e (fun _ e => zt_sub (z_fc rfl (z_fc rfl (z_fc rfl (z_fc rfl (z_fc rfl (z_fc rfl (z_fn))))))) <| sfB_writeFactors_99 N k19 hk19 l0 l1 l2 l3 l4 l5 h14 _ e) (fun _ e => zl hy 1 (pc2 := 82) (lv2 := [(0, .ref l0), (1, .ref l1), (2, .int l2), (3, .int l3), (4, .int l4), (5, .int l5)]) (st2 := [.ref l0]) rfl <| zx_gR hy rfl e fun x15 _ e => zx_bip hy (c := 94) rfl (by decide) <| zx_call hy (as := [.ref x15, .int (Int32.ofInt 94)]) (rest := []) (ov := (fun _ => none)) (fun _ => rfl) rfl rfl (Or.inl rfl) rfl rfl (Nat.le_of_ble_eq_true rfl) (Nat.le_of_ble_eq_true rfl) (fun _ e _ => z_rcvT (rfW_add N x15 (Int32.ofInt 94) h14 _ e)) (fun _ e => zt_deep (Nat.le_of_ble_eq_true rfl) (sfW_add N x15 (Int32.ofInt 94) h14 _ e)) e fun _ h17 _ e => zl hy 1 (pc2 := 91) (lv2 := [(0, .ref l0), (1, .ref l1), (2, .int l2), (3, .int l3), (4, .int l4), (5, .int l5)]) (st2 := [.ref l0]) rfl <| zx_gR hy rfl e fun x18 _ e => zl hy 1 (pc2 := 96) (lv2 := [(0, .ref l0), (1, .ref l1), (2, .int l2), (3, .int l3), (4, .int l4), (5, .int l5)]) (st2 := [.int l5, .ref x18]) rfl <| zx_call hy (as := [.ref x18, .int l5]) (rest := []) (ov := (fun _ => none)) (fun _ => rfl) rfl rfl (Or.inl rfl) rfl rfl (Nat.le_of_ble_eq_true rfl) (Nat.le_of_ble_eq_true rfl) (fun _ e _ => z_rcvT (rfW_addNumber N x18 l5 h17 _ e)) (fun _ e => zt_deep (Nat.le_of_ble_eq_true rfl) (sfW_addNumber N x18 l5 h17 _ e)) e fun _ h20 _ e => zt_sub (z_fc rfl (z_fc rfl (z_fc rfl (z_fc rfl (z_fc rfl (z_fc rfl (z_fn))))))) <| sfB_writeFactors_99 N k19 hk19 l0 l1 l2 l3 l4 l5 h20 _ e)
def fB_writeFactors_19 (N : Nat) : Nat → Nat → Nat → Int32 → Int32 → zH → Option (Int32 × zH)
  | 0, _, _, _, _, _ => none
  | n + 1, l0, l1, l2, l3, h => b1 (fI h l1 4 1) fun x6 => cond (z_cmp .ge l3 x6) (fB_writeFactors_115 N  l0 h) (b1 (fI h l1 4 1) fun x7 => cond (z_cmp .ge l2 x7) (fB_writeFactors_115 N  l0 h) (b2 (fW_lyndonEnd N l1 l2 h) fun x8 h9 => b2 (fW_countFactorsLike N l1 l2 x8 h9) fun x10 h11 => cond (z_cmp .le l2 (Int32.ofInt 0)) (fB_writeFactors_64 N (fB_writeFactors_19 N n ) l0 l1 l2 l3 x8 x10 h11) (b1 (fR h11 l0 0 5) fun x12 => b2 (fW_add N x12 (Int32.ofInt 124) h11) fun _ h14 => fB_writeFactors_64 N (fB_writeFactors_19 N n ) l0 l1 l2 l3 x8 x10 h14)))
theorem sfB_writeFactors_19 {xs : List Int32} (N : Nat)   : ∀ (n : Nat) (l0 : Nat) (l1 : Nat) (l2 : Int32) (l3 : Int32) (h : zH) (r : Int32 × zH), fB_writeFactors_19 N n  l0 l1 l2 l3 h = some r → zt xs (5) 134 19 [(0, .ref l0), (1, .ref l1), (2, .int l2), (3, .int l3)] [] h 0 0 (zQ cI r) := by
  have hy := mfB_writeFactors_19
  intro n
  induction n with
  | zero =>
    intro l0 l1 l2 l3 h r e
    rw [fB_writeFactors_19] at e
    cases e
  | succ n ih =>
    intro l0 l1 l2 l3 h r e
    rw [fB_writeFactors_19] at e
    exact zl hy 2 (pc2 := 21) (lv2 := [(0, .ref l0), (1, .ref l1), (2, .int l2), (3, .int l3)]) (st2 := [.ref l1, .int l3]) rfl <| zx_gI hy rfl e fun x6 _ e => zx_c hy rfl e (fun _ e => zt_sub (z_fc rfl (z_fn)) <| sfB_writeFactors_115 N   l0 h _ e) (fun _ e => zl hy 2 (pc2 := 29) (lv2 := [(0, .ref l0), (1, .ref l1), (2, .int l2), (3, .int l3)]) (st2 := [.ref l1, .int l2]) rfl <| zx_gI hy rfl e fun x7 _ e => zx_c hy rfl e (fun _ e => zt_sub (z_fc rfl (z_fn)) <| sfB_writeFactors_115 N   l0 h _ e) (fun _ e => zl hy 2 (pc2 := 37) (lv2 := [(0, .ref l0), (1, .ref l1), (2, .int l2), (3, .int l3)]) (st2 := [.int l2, .ref l1]) rfl <| zx_call hy (as := [.ref l1, .int l2]) (rest := []) (ov := (fun v => some (.int v))) (fun _ => rfl) rfl rfl (Or.inl rfl) rfl rfl (Nat.le_of_ble_eq_true rfl) (Nat.le_of_ble_eq_true rfl) (fun _ e _ => z_rcvT (rfW_lyndonEnd N l1 l2 h _ e)) (fun _ e => zt_deep (Nat.le_of_ble_eq_true rfl) (sfW_lyndonEnd N l1 l2 h _ e)) e fun x8 h9 _ e => zl hy 4 (pc2 := 46) (lv2 := [(4, .int x8), (0, .ref l0), (1, .ref l1), (2, .int l2), (3, .int l3)]) (st2 := [.int x8, .int l2, .ref l1]) rfl <| zx_call hy (as := [.ref l1, .int l2, .int x8]) (rest := []) (ov := (fun v => some (.int v))) (fun _ => rfl) rfl rfl (Or.inl rfl) rfl rfl (Nat.le_of_ble_eq_true rfl) (Nat.le_of_ble_eq_true rfl) (fun _ e _ => z_rcvT (rfW_countFactorsLike N l1 l2 x8 h9 _ e)) (fun _ e => zt_deep (Nat.le_of_ble_eq_true rfl) (sfW_countFactorsLike N l1 l2 x8 h9 _ e)) e fun x10 h11 _ e => zl hy 2 (pc2 := 52) (lv2 := [(5, .int x10), (4, .int x8), (0, .ref l0), (1, .ref l1), (2, .int l2), (3, .int l3)]) (st2 := [.int l2]) rfl <| zx_c0 hy rfl e (fun _ e => zt_sub (z_fc rfl (z_fc rfl (z_fc rfl (z_fc rfl (z_fc rfl (z_fc rfl (z_fn))))))) <| sfB_writeFactors_64 N (fB_writeFactors_19 N n ) ih l0 l1 l2 l3 x8 x10 h11 _ e) (fun _ e => zl hy 1 (pc2 := 56) (lv2 := [(5, .int x10), (4, .int x8), (0, .ref l0), (1, .ref l1), (2, .int l2), (3, .int l3)]) (st2 := [.ref l0]) rfl <| zx_gR hy rfl e fun x12 _ e => zx_bip hy (c := 124) rfl (by decide) <| zx_call hy (as := [.ref x12, .int (Int32.ofInt 124)]) (rest := []) (ov := (fun _ => none)) (fun _ => rfl) rfl rfl (Or.inl rfl) rfl rfl (Nat.le_of_ble_eq_true rfl) (Nat.le_of_ble_eq_true rfl) (fun _ e _ => z_rcvT (rfW_add N x12 (Int32.ofInt 124) h11 _ e)) (fun _ e => zt_deep (Nat.le_of_ble_eq_true rfl) (sfW_add N x12 (Int32.ofInt 124) h11 _ e)) e fun _ h14 _ e => zt_sub (z_fc rfl (z_fc rfl (z_fc rfl (z_fc rfl (z_fc rfl (z_fc rfl (z_fn))))))) <| sfB_writeFactors_64 N (fB_writeFactors_19 N n ) ih l0 l1 l2 l3 x8 x10 h14 _ e)))
def fB_writeFactors (N : Nat) (l0 : Nat) (h : zH) : Option (Int32 × zH) := cond (fT h l0 0) (b1 (fR h l0 0 0) fun x1 => b1 (fR h x1 3 1) fun x2 => b1 (fR h l0 0 5) fun x3 => b2 (fW_clear N x3 h) fun _ h5 => fB_writeFactors_19 N N  l0 x2 (Int32.ofInt 0) (Int32.ofInt 0) h5) none
theorem sfB_writeFactors {xs : List Int32} (N : Nat) (l0 : Nat) (h : zH) (r : Int32 × zH) (e : fB_writeFactors N l0 h = some r) : zt xs (5) 134 0 [(0, .ref l0)] [] h 0 0 (zQ cI r) := by
  have hy := mfB_writeFactors_m
  unfold fB_writeFactors at e
  replace e := (cond_some e).2
  exact zl hy 1 (pc2 := 1) (lv2 := [(0, .ref l0)]) (st2 := [.ref l0]) rfl <| zx_gR hy rfl e fun x1 _ e => zx_gR hy rfl e fun x2 _ e => zl hy 2 (pc2 := 9) (lv2 := [(1, .ref x2), (0, .ref l0)]) (st2 := [.ref l0]) rfl <| zx_gR hy rfl e fun x3 _ e => zx_call hy (as := [.ref x3]) (rest := []) (ov := (fun _ => none)) (fun _ => rfl) rfl rfl (Or.inl rfl) rfl rfl (Nat.le_of_ble_eq_true rfl) (Nat.le_of_ble_eq_true rfl) (fun _ e _ => z_rcvT (rfW_clear N x3 h _ e)) (fun _ e => zt_deep (Nat.le_of_ble_eq_true rfl) (sfW_clear N x3 h _ e)) e fun _ h5 _ e => zl hy 4 (pc2 := 19) (lv2 := [(3, .int (Int32.ofInt 0)), (2, .int (Int32.ofInt 0)), (1, .ref x2), (0, .ref l0)]) (st2 := []) rfl <| zt_sub (z_fc rfl (z_fc rfl (z_fc rfl (z_fc rfl (z_fn))))) <| sfB_writeFactors_19 N   N l0 x2 (Int32.ofInt 0) (Int32.ofInt 0) h5 _ e
theorem rfB_writeFactors (N : Nat) (l0 : Nat) (h : zH) (r : Int32 × zH) (e : fB_writeFactors N l0 h = some r) : fT h l0 0 = true := by
  unfold fB_writeFactors at e
  exact (cond_some e).1
/-- LyndonBench.reportByte(I)I -/
theorem mfB_reportByte : z_me 135 zc_135 2 [] (some .int) := ⟨z_me0 rfl, rfl, rfl, rfl⟩
def fB_reportByte (N : Nat) (l0 : Nat) (l1 : Int32) (h : zH) : Option (Int32 × zH) := cond (fT h l0 0) (b1 (fR h l0 0 5) fun x1 => b2 (fW_at N x1 l1 h) fun x2 h3 => some (x2, h3)) none
theorem sfB_reportByte {xs : List Int32} (N : Nat) (l0 : Nat) (l1 : Int32) (h : zH) (r : Int32 × zH) (e : fB_reportByte N l0 l1 h = some r) : zt xs (2) 135 0 [(0, .ref l0), (1, .int l1)] [] h 0 0 (zQ cI r) := by
  have hy := mfB_reportByte
  unfold fB_reportByte at e
  replace e := (cond_some e).2
  exact zl hy 1 (pc2 := 1) (lv2 := [(0, .ref l0), (1, .int l1)]) (st2 := [.ref l0]) rfl <| zx_gR hy rfl e fun x1 _ e => zl hy 1 (pc2 := 5) (lv2 := [(0, .ref l0), (1, .int l1)]) (st2 := [.int l1, .ref x1]) rfl <| zx_call hy (as := [.ref x1, .int l1]) (rest := []) (ov := (fun v => some (.int v))) (fun _ => rfl) rfl rfl (Or.inl rfl) rfl rfl (Nat.le_of_ble_eq_true rfl) (Nat.le_of_ble_eq_true rfl) (fun _ e _ => z_rcvT (rfW_at N x1 l1 h _ e)) (fun _ e => zt_deep (Nat.le_of_ble_eq_true rfl) (sfW_at N x1 l1 h _ e)) e fun x2 h3 _ e => zx_ret hy rfl rfl rfl rfl e
theorem rfB_reportByte (N : Nat) (l0 : Nat) (l1 : Int32) (h : zH) (r : Int32 × zH) (e : fB_reportByte N l0 l1 h = some r) : fT h l0 0 = true := by
  unfold fB_reportByte at e
  exact (cond_some e).1
/-- LyndonBenchModel.in(III)Z -/
theorem mfM_in : z_me 148 zc_148 3 [] (some .boolean) := ⟨z_me0 rfl, rfl, rfl, rfl⟩
def fM_in_15 (N : Nat)  (s0 : Int32) (h : zH) : Option (Int32 × zH) := cond (decide (s0 = Int32.ofInt 0) || decide (s0 = Int32.ofInt 1)) (some (s0, h)) none
theorem sfM_in_15 {xs : List Int32} (N : Nat)   (s0 : Int32) (h : zH) (r : Int32 × zH) (e : fM_in_15 N  s0 h = some r) : zt xs (1) 148 15 [] [.int s0] h 0 0 (zQ cI r) := by
  have hy := mfM_in
  unfold fM_in_15 at e
  exact zx_retB hy rfl rfl e
def fM_in_14 (N : Nat)   (h : zH) : Option (Int32 × zH) := fM_in_15 N  (Int32.ofInt 0) h
theorem sfM_in_14 {xs : List Int32} (N : Nat)    (h : zH) (r : Int32 × zH) (e : fM_in_14 N   h = some r) : zt xs (1) 148 14 [] [] h 0 0 (zQ cI r) := by
  have hy := mfM_in
  unfold fM_in_14 at e
  exact zl hy 1 (pc2 := 15) (lv2 := []) (st2 := [.int (Int32.ofInt 0)]) rfl <| zt_sub (z_fn) <| sfM_in_15 N   (Int32.ofInt 0) h _ e
def fM_in (N : Nat) (l0 : Int32) (l1 : Int32) (l2 : Int32) (h : zH) : Option (Int32 × zH) := cond (z_cmp .lt l0 l1) (fM_in_14 N   h) (cond (z_cmp .gt l0 l2) (fM_in_14 N   h) (fM_in_15 N  (Int32.ofInt 1) h))
theorem sfM_in {xs : List Int32} (N : Nat) (l0 : Int32) (l1 : Int32) (l2 : Int32) (h : zH) (r : Int32 × zH) (e : fM_in N l0 l1 l2 h = some r) : zt xs (1) 148 0 [(0, .int l0), (1, .int l1), (2, .int l2)] [] h 0 0 (zQ cI r) := by
  have hy := mfM_in
  unfold fM_in at e
  exact zl hy 2 (pc2 := 2) (lv2 := [(0, .int l0), (1, .int l1), (2, .int l2)]) (st2 := [.int l1, .int l0]) rfl <| zx_c hy rfl e (fun _ e => zt_sub (z_fn) <| sfM_in_14 N    h _ e) (fun _ e => zl hy 2 (pc2 := 7) (lv2 := [(0, .int l0), (1, .int l1), (2, .int l2)]) (st2 := [.int l2, .int l0]) rfl <| zx_c hy rfl e (fun _ e => zt_sub (z_fn) <| sfM_in_14 N    h _ e) (fun _ e => zl hy 2 (pc2 := 15) (lv2 := [(0, .int l0), (1, .int l1), (2, .int l2)]) (st2 := [.int (Int32.ofInt 1)]) rfl <| zt_sub (z_fn) <| sfM_in_15 N   (Int32.ofInt 1) h _ e))
/-- LyndonBenchModel.throwsOne(Z)Z -/
theorem mfM_throwsOne : z_me 149 zc_149 2 [] (some .boolean) := ⟨z_me0 rfl, rfl, rfl, rfl⟩
def fM_throwsOne_10 (N : Nat)  (l1 : Int32) (s0 : Int32) (s1 : Nat) (h : zH) : Option (Int32 × zH) := b1 (fS h s1 5 17 (.int s0)) fun h1 => cond (decide (l1 = Int32.ofInt 0) || decide (l1 = Int32.ofInt 1)) (some (l1, h1)) none
theorem sfM_throwsOne_10 {xs : List Int32} (N : Nat)   (l1 : Int32) (s0 : Int32) (s1 : Nat) (h : zH) (r : Int32 × zH) (e : fM_throwsOne_10 N  l1 s0 s1 h = some r) : zt xs (1) 149 10 [(1, .int l1)] [.int s0, .ref s1] h 0 0 (zQ cI r) := by
  have hy := mfM_throwsOne
  unfold fM_throwsOne_10 at e
  exact zx_pf hy rfl e (rfl) fun h1 _ e => zl hy 1 (pc2 := 14) (lv2 := [(1, .int l1)]) (st2 := [.int l1]) rfl <| zx_retB hy rfl rfl e
def fM_throwsOne (N : Nat) (l0 : Nat) (l1 : Int32) (h : zH) : Option (Int32 × zH) := cond (fT h l0 5) (cond (z_cmp .eq l1 (Int32.ofInt 0)) (fM_throwsOne_10 N  l1 (Int32.ofInt 0) l0 h) (fM_throwsOne_10 N  l1 (Int32.ofInt 1) l0 h)) none
theorem sfM_throwsOne {xs : List Int32} (N : Nat) (l0 : Nat) (l1 : Int32) (h : zH) (r : Int32 × zH) (e : fM_throwsOne N l0 l1 h = some r) : zt xs (1) 149 0 [(0, .ref l0), (1, .int l1)] [] h 0 0 (zQ cI r) := by
  have hy := mfM_throwsOne
  unfold fM_throwsOne at e
  replace e := (cond_some e).2
  exact zl hy 2 (pc2 := 2) (lv2 := [(0, .ref l0), (1, .int l1)]) (st2 := [.int l1, .ref l0]) rfl <| zx_c0 hy rfl e (fun _ e => zl hy 1 (pc2 := 10) (lv2 := [(0, .ref l0), (1, .int l1)]) (st2 := [.int (Int32.ofInt 0), .ref l0]) rfl <| zt_sub (z_fc rfl (z_fn)) <| sfM_throwsOne_10 N   l1 (Int32.ofInt 0) l0 h _ e) (fun _ e => zl hy 2 (pc2 := 10) (lv2 := [(0, .ref l0), (1, .int l1)]) (st2 := [.int (Int32.ofInt 1), .ref l0]) rfl <| zt_sub (z_fc rfl (z_fn)) <| sfM_throwsOne_10 N   l1 (Int32.ofInt 1) l0 h _ e)
theorem rfM_throwsOne (N : Nat) (l0 : Nat) (l1 : Int32) (h : zH) (r : Int32 × zH) (e : fM_throwsOne N l0 l1 h = some r) : fT h l0 5 = true := by
  unfold fM_throwsOne at e
  exact (cond_some e).1
/-- LyndonBenchModel.throwsOne(ZZ)Z -/
theorem mfM_throwsOne2 : z_me 150 zc_150 3 [] (some .boolean) := ⟨z_me0 rfl, rfl, rfl, rfl⟩
def fM_throwsOne2_34 (N : Nat)  (s0 : Int32) (h : zH) : Option (Int32 × zH) := cond (decide (s0 = Int32.ofInt 0) || decide (s0 = Int32.ofInt 1)) (some (s0, h)) none
theorem sfM_throwsOne2_34 {xs : List Int32} (N : Nat)   (s0 : Int32) (h : zH) (r : Int32 × zH) (e : fM_throwsOne2_34 N  s0 h = some r) : zt xs (1) 150 34 [] [.int s0] h 0 0 (zQ cI r) := by
  have hy := mfM_throwsOne2
  unfold fM_throwsOne2_34 at e
  exact zx_retB hy rfl rfl e
def fM_throwsOne2_29 (N : Nat)   (h : zH) : Option (Int32 × zH) := fM_throwsOne2_34 N  (Int32.ofInt 1) h
theorem sfM_throwsOne2_29 {xs : List Int32} (N : Nat)    (h : zH) (r : Int32 × zH) (e : fM_throwsOne2_29 N   h = some r) : zt xs (1) 150 29 [] [] h 0 0 (zQ cI r) := by
  have hy := mfM_throwsOne2
  unfold fM_throwsOne2_29 at e
  exact zl hy 2 (pc2 := 34) (lv2 := []) (st2 := [.int (Int32.ofInt 1)]) rfl <| zt_sub (z_fn) <| sfM_throwsOne2_34 N   (Int32.ofInt 1) h _ e
def fM_throwsOne2_18 (N : Nat)  (l1 : Int32) (l2 : Int32) (s0 : Int32) (s1 : Nat) (h : zH) : Option (Int32 × zH) := b1 (fS h s1 5 17 (.int s0)) fun h1 => cond (z_cmp .ne l1 (Int32.ofInt 0)) (fM_throwsOne2_29 N   h1) (cond (z_cmp .eq l2 (Int32.ofInt 0)) (fM_throwsOne2_34 N  (Int32.ofInt 0) h1) (fM_throwsOne2_29 N   h1))
theorem sfM_throwsOne2_18 {xs : List Int32} (N : Nat)   (l1 : Int32) (l2 : Int32) (s0 : Int32) (s1 : Nat) (h : zH) (r : Int32 × zH) (e : fM_throwsOne2_18 N  l1 l2 s0 s1 h = some r) : zt xs (1) 150 18 [(1, .int l1), (2, .int l2)] [.int s0, .ref s1] h 0 0 (zQ cI r) := by
  have hy := mfM_throwsOne2
  unfold fM_throwsOne2_18 at e
  exact zx_pf hy rfl e (rfl) fun h1 _ e => zl hy 1 (pc2 := 22) (lv2 := [(1, .int l1), (2, .int l2)]) (st2 := [.int l1]) rfl <| zx_c0 hy rfl e (fun _ e => zt_sub (z_fn) <| sfM_throwsOne2_29 N    h1 _ e) (fun _ e => zl hy 1 (pc2 := 26) (lv2 := [(1, .int l1), (2, .int l2)]) (st2 := [.int l2]) rfl <| zx_c0 hy rfl e (fun _ e => zl hy 1 (pc2 := 34) (lv2 := [(1, .int l1), (2, .int l2)]) (st2 := [.int (Int32.ofInt 0)]) rfl <| zt_sub (z_fn) <| sfM_throwsOne2_34 N   (Int32.ofInt 0) h1 _ e) (fun _ e => zt_sub (z_fn) <| sfM_throwsOne2_29 N    h1 _ e))
def fM_throwsOne2 (N : Nat) (l0 : Nat) (l1 : Int32) (l2 : Int32) (h : zH) : Option (Int32 × zH) := cond (fT h l0 5) (cond (z_cmp .eq l1 (Int32.ofInt 0)) (cond (z_cmp .eq l2 (Int32.ofInt 0)) (fM_throwsOne2_18 N  l1 l2 (Int32.ofInt 0) l0 h) (fM_throwsOne2_18 N  l1 l2 (Int32.ofInt 2) l0 h)) (fM_throwsOne2_18 N  l1 l2 (Int32.ofInt 1) l0 h)) none
theorem sfM_throwsOne2 {xs : List Int32} (N : Nat) (l0 : Nat) (l1 : Int32) (l2 : Int32) (h : zH) (r : Int32 × zH) (e : fM_throwsOne2 N l0 l1 l2 h = some r) : zt xs (1) 150 0 [(0, .ref l0), (1, .int l1), (2, .int l2)] [] h 0 0 (zQ cI r) := by
  have hy := mfM_throwsOne2
  unfold fM_throwsOne2 at e
  replace e := (cond_some e).2
  exact zl hy 2 (pc2 := 2) (lv2 := [(0, .ref l0), (1, .int l1), (2, .int l2)]) (st2 := [.int l1, .ref l0]) rfl <| zx_c0 hy rfl e (fun _ e => zl hy 1 (pc2 := 10) (lv2 := [(0, .ref l0), (1, .int l1), (2, .int l2)]) (st2 := [.int l2, .ref l0]) rfl <| zx_c0 hy rfl e (fun _ e => zl hy 1 (pc2 := 18) (lv2 := [(0, .ref l0), (1, .int l1), (2, .int l2)]) (st2 := [.int (Int32.ofInt 0), .ref l0]) rfl <| zt_sub (z_fc rfl (z_fc rfl (z_fn))) <| sfM_throwsOne2_18 N   l1 l2 (Int32.ofInt 0) l0 h _ e) (fun _ e => zl hy 2 (pc2 := 18) (lv2 := [(0, .ref l0), (1, .int l1), (2, .int l2)]) (st2 := [.int (Int32.ofInt 2), .ref l0]) rfl <| zt_sub (z_fc rfl (z_fc rfl (z_fn))) <| sfM_throwsOne2_18 N   l1 l2 (Int32.ofInt 2) l0 h _ e)) (fun _ e => zl hy 2 (pc2 := 18) (lv2 := [(0, .ref l0), (1, .int l1), (2, .int l2)]) (st2 := [.int (Int32.ofInt 1), .ref l0]) rfl <| zt_sub (z_fc rfl (z_fc rfl (z_fn))) <| sfM_throwsOne2_18 N   l1 l2 (Int32.ofInt 1) l0 h _ e)
theorem rfM_throwsOne2 (N : Nat) (l0 : Nat) (l1 : Int32) (l2 : Int32) (h : zH) (r : Int32 × zH) (e : fM_throwsOne2 N l0 l1 l2 h = some r) : fT h l0 5 = true := by
  unfold fM_throwsOne2 at e
  exact (cond_some e).1
/-- LyndonBenchModel.isLetter(I)Z -/
theorem mfM_isLetter : z_me 151 zc_151 2 [] (some .boolean) := ⟨z_me0 rfl, rfl, rfl, rfl⟩
def fM_isLetter (N : Nat) (l0 : Nat) (l1 : Int32) (h : zH) : Option (Int32 × zH) := cond (fT h l0 5) (b1 (fR h l0 5 0) fun x1 => b1 (fAI h x1 100 (Int32.ofInt 0)) fun x2 => b2 (fM_in N l1 (Int32.ofInt 97) (((Int32.ofInt 97) + x2) - (Int32.ofInt 1)) h) fun x3 h4 => cond (decide (x3 = Int32.ofInt 0) || decide (x3 = Int32.ofInt 1)) (some (x3, h4)) none) none
theorem sfM_isLetter {xs : List Int32} (N : Nat) (l0 : Nat) (l1 : Int32) (h : zH) (r : Int32 × zH) (e : fM_isLetter N l0 l1 h = some r) : zt xs (2) 151 0 [(0, .ref l0), (1, .int l1)] [] h 0 0 (zQ cI r) := by
  have hy := mfM_isLetter
  unfold fM_isLetter at e
  replace e := (cond_some e).2
  exact zl hy 1 (pc2 := 1) (lv2 := [(0, .ref l0), (1, .int l1)]) (st2 := [.int l1]) rfl <| zx_bip hy (c := 97) rfl (by decide) <| zx_bip hy (c := 97) rfl (by decide) <| zl hy 1 (pc2 := 6) (lv2 := [(0, .ref l0), (1, .int l1)]) (st2 := [.ref l0, .int (Int32.ofInt 97), .int (Int32.ofInt 97), .int l1]) rfl <| zx_gR hy rfl e fun x1 _ e => zl hy 1 (pc2 := 10) (lv2 := [(0, .ref l0), (1, .int l1)]) (st2 := [.int (Int32.ofInt 0), .ref x1, .int (Int32.ofInt 97), .int (Int32.ofInt 97), .int l1]) rfl <| zx_aI hy (j := .iaload) (Or.inl ⟨rfl, rfl⟩) rfl e fun x2 _ e => zl hy 3 (pc2 := 14) (lv2 := [(0, .ref l0), (1, .int l1)]) (st2 := [.int (((Int32.ofInt 97) + x2) - (Int32.ofInt 1)), .int (Int32.ofInt 97), .int l1]) rfl <| zx_call hy (as := [.int l1, .int (Int32.ofInt 97), .int (((Int32.ofInt 97) + x2) - (Int32.ofInt 1))]) (rest := []) (ov := (fun v => some (.int v))) (fun _ => rfl) rfl rfl (Or.inr (Or.inl rfl)) rfl rfl (Nat.le_of_ble_eq_true rfl) (Nat.le_of_ble_eq_true rfl) (fun _ _ hz => absurd rfl hz) (fun _ e => zt_deep (Nat.le_of_ble_eq_true rfl) (sfM_in N l1 (Int32.ofInt 97) (((Int32.ofInt 97) + x2) - (Int32.ofInt 1)) h _ e)) e fun x3 h4 _ e => zx_retB hy rfl rfl e
theorem rfM_isLetter (N : Nat) (l0 : Nat) (l1 : Int32) (h : zH) (r : Int32 × zH) (e : fM_isLetter N l0 l1 h = some r) : fT h l0 5 = true := by
  unfold fM_isLetter at e
  exact (cond_some e).1
/-- LyndonBenchModel.isShelved(I)Z -/
theorem mfM_isShelved : z_me 152 zc_152 2 [] (some .boolean) := ⟨z_me0 rfl, rfl, rfl, rfl⟩
def fM_isShelved (N : Nat) (l0 : Nat) (l1 : Int32) (h : zH) : Option (Int32 × zH) := cond (fT h l0 5) (b1 (fR h l0 5 0) fun x1 => b1 (fAI h x1 100 (Int32.ofInt 2)) fun x2 => b2 (fM_in N l1 (Int32.ofInt 0) (x2 - (Int32.ofInt 1)) h) fun x3 h4 => cond (decide (x3 = Int32.ofInt 0) || decide (x3 = Int32.ofInt 1)) (some (x3, h4)) none) none
theorem sfM_isShelved {xs : List Int32} (N : Nat) (l0 : Nat) (l1 : Int32) (h : zH) (r : Int32 × zH) (e : fM_isShelved N l0 l1 h = some r) : zt xs (2) 152 0 [(0, .ref l0), (1, .int l1)] [] h 0 0 (zQ cI r) := by
  have hy := mfM_isShelved
  unfold fM_isShelved at e
  replace e := (cond_some e).2
  exact zl hy 3 (pc2 := 3) (lv2 := [(0, .ref l0), (1, .int l1)]) (st2 := [.ref l0, .int (Int32.ofInt 0), .int l1]) rfl <| zx_gR hy rfl e fun x1 _ e => zl hy 1 (pc2 := 7) (lv2 := [(0, .ref l0), (1, .int l1)]) (st2 := [.int (Int32.ofInt 2), .ref x1, .int (Int32.ofInt 0), .int l1]) rfl <| zx_aI hy (j := .iaload) (Or.inl ⟨rfl, rfl⟩) rfl e fun x2 _ e => zl hy 2 (pc2 := 10) (lv2 := [(0, .ref l0), (1, .int l1)]) (st2 := [.int (x2 - (Int32.ofInt 1)), .int (Int32.ofInt 0), .int l1]) rfl <| zx_call hy (as := [.int l1, .int (Int32.ofInt 0), .int (x2 - (Int32.ofInt 1))]) (rest := []) (ov := (fun v => some (.int v))) (fun _ => rfl) rfl rfl (Or.inr (Or.inl rfl)) rfl rfl (Nat.le_of_ble_eq_true rfl) (Nat.le_of_ble_eq_true rfl) (fun _ _ hz => absurd rfl hz) (fun _ e => zt_deep (Nat.le_of_ble_eq_true rfl) (sfM_in N l1 (Int32.ofInt 0) (x2 - (Int32.ofInt 1)) h _ e)) e fun x3 h4 _ e => zx_retB hy rfl rfl e
theorem rfM_isShelved (N : Nat) (l0 : Nat) (l1 : Int32) (h : zH) (r : Int32 × zH) (e : fM_isShelved N l0 l1 h = some r) : fT h l0 5 = true := by
  unfold fM_isShelved at e
  exact (cond_some e).1
/-- LyndonBenchModel.compares(IIII)I -/
theorem mfM_compares : z_me 153 zc_153 6 [] (some .int) := ⟨z_me0 rfl, rfl, rfl, rfl⟩
abbrev zC_153_63 : List zE := [(63, .iload_n 2, 1, 0, 0), (64, .iload 4, 2, 0, 0), (66, .isub, 1, 0, 0), (67, .ireturn, 1, 0, 0)]
theorem mfM_compares_63 : z_me 153 zC_153_63 6 [] (some .int) := ⟨z_me1 (cd := zc_153) rfl (by decide +kernel), rfl, rfl, rfl⟩
abbrev zC_153_3 : List zE := [(3, .iload 5, 2, 0, 0), (5, .iload_n 2, 1, 0, 0), (6, .if_icmp .ge 57, 3, 63, 0), (9, .iload 5, 2, 0, 0), (11, .iload 4, 2, 0, 0), (13, .if_icmp .ge 50, 3, 63, 0), (16, .aload_n 0, 1, 0, 0), (17, .getfield 7, 3, 5, 0), (20, .iload_n 1, 1, 0, 0), (21, .iload 5, 2, 0, 0), (23, .iadd, 1, 0, 0), (24, .iaload, 1, 0, 0), (25, .aload_n 0, 1, 0, 0), (26, .getfield 7, 3, 5, 0), (29, .iload_n 3, 1, 0, 0), (30, .iload 5, 2, 0, 0), (32, .iadd, 1, 0, 0), (33, .iaload, 1, 0, 0), (34, .if_icmp .eq 23, 3, 57, 0), (37, .aload_n 0, 1, 0, 0), (38, .getfield 7, 3, 5, 0), (41, .iload_n 1, 1, 0, 0), (42, .iload 5, 2, 0, 0), (44, .iadd, 1, 0, 0), (45, .iaload, 1, 0, 0), (46, .aload_n 0, 1, 0, 0), (47, .getfield 7, 3, 5, 0), (50, .iload_n 3, 1, 0, 0), (51, .iload 5, 2, 0, 0), (53, .iadd, 1, 0, 0), (54, .iaload, 1, 0, 0), (55, .isub, 1, 0, 0), (56, .ireturn, 1, 0, 0), (57, .iinc 5 1, 3, 0, 0), (60, .goto (-57), 3, 3, 0)]
theorem mfM_compares_3 : z_me 153 zC_153_3 6 [] (some .int) := ⟨z_me1 (cd := zc_153) rfl (by decide +kernel), rfl, rfl, rfl⟩
abbrev zC_153_m : List zE := [(0, .iconst 0, 1, 0, 0), (1, .istore 5, 2, 0, 0)]
theorem mfM_compares_m : z_me 153 zC_153_m 6 [] (some .int) := ⟨z_me1 (cd := zc_153) rfl (by decide +kernel), rfl, rfl, rfl⟩
def fM_compares_63 (N : Nat)  (l2 : Int32) (l4 : Int32) (h : zH) : Option (Int32 × zH) := some ((l2 - l4), h)
theorem sfM_compares_63 {xs : List Int32} (N : Nat)   (l2 : Int32) (l4 : Int32) (h : zH) (r : Int32 × zH) (e : fM_compares_63 N  l2 l4 h = some r) : zt xs (1) 153 63 [(2, .int l2), (4, .int l4)] [] h 0 0 (zQ cI r) := by
  have hy := mfM_compares_63
  unfold fM_compares_63 at e
  exact zl hy 3 (pc2 := 67) (lv2 := [(2, .int l2), (4, .int l4)]) (st2 := [.int (l2 - l4)]) rfl <| zx_ret hy rfl rfl rfl rfl e
def fM_compares_3 (N : Nat) : Nat → Nat → Int32 → Int32 → Int32 → Int32 → Int32 → zH → Option (Int32 × zH)
  | 0, _, _, _, _, _, _, _ => none
  | n + 1, l0, l1, l2, l3, l4, l5, h => cond (z_cmp .ge l5 l2) (fM_compares_63 N  l2 l4 h) (cond (z_cmp .ge l5 l4) (fM_compares_63 N  l2 l4 h) (b1 (fR h l0 5 0) fun x1 => b1 (fAI h x1 100 (l1 + l5)) fun x2 => b1 (fR h l0 5 0) fun x3 => b1 (fAI h x3 100 (l3 + l5)) fun x4 => cond (z_cmp .eq x2 x4) (fM_compares_3 N n  l0 l1 l2 l3 l4 (l5 + Int32.ofInt 1) h) (b1 (fR h l0 5 0) fun x5 => b1 (fAI h x5 100 (l1 + l5)) fun x6 => b1 (fR h l0 5 0) fun x7 => b1 (fAI h x7 100 (l3 + l5)) fun x8 => some ((x6 - x8), h))))
theorem sfM_compares_3 {xs : List Int32} (N : Nat)   : ∀ (n : Nat) (l0 : Nat) (l1 : Int32) (l2 : Int32) (l3 : Int32) (l4 : Int32) (l5 : Int32) (h : zH) (r : Int32 × zH), fM_compares_3 N n  l0 l1 l2 l3 l4 l5 h = some r → zt xs (1) 153 3 [(0, .ref l0), (1, .int l1), (2, .int l2), (3, .int l3), (4, .int l4), (5, .int l5)] [] h 0 0 (zQ cI r) := by
  have hy := mfM_compares_3
  intro n
  induction n with
  | zero =>
    intro l0 l1 l2 l3 l4 l5 h r e
    rw [fM_compares_3] at e
    cases e
  | succ n ih =>
    intro l0 l1 l2 l3 l4 l5 h r e
    rw [fM_compares_3] at e
    exact zl hy 2 (pc2 := 6) (lv2 := [(0, .ref l0), (1, .int l1), (2, .int l2), (3, .int l3), (4, .int l4), (5, .int l5)]) (st2 := [.int l2, .int l5]) rfl <| zx_c hy rfl e (fun _ e => zt_sub (z_fc rfl (z_fc rfl (z_fn))) <| sfM_compares_63 N   l2 l4 h _ e) (fun _ e => zl hy 2 (pc2 := 13) (lv2 := [(0, .ref l0), (1, .int l1), (2, .int l2), (3, .int l3), (4, .int l4), (5, .int l5)]) (st2 := [.int l4, .int l5]) rfl <| zx_c hy rfl e (fun _ e => zt_sub (z_fc rfl (z_fc rfl (z_fn))) <| sfM_compares_63 N   l2 l4 h _ e) (fun _ e => zl hy 1 (pc2 := 17) (lv2 := [(0, .ref l0), (1, .int l1), (2, .int l2), (3, .int l3), (4, .int l4), (5, .int l5)]) (st2 := [.ref l0]) rfl <| zx_gR hy rfl e fun x1 _ e => zl hy 3 (pc2 := 24) (lv2 := [(0, .ref l0), (1, .int l1), (2, .int l2), (3, .int l3), (4, .int l4), (5, .int l5)]) (st2 := [.int (l1 + l5), .ref x1]) rfl <| zx_aI hy (j := .iaload) (Or.inl ⟨rfl, rfl⟩) rfl e fun x2 _ e => zl hy 1 (pc2 := 26) (lv2 := [(0, .ref l0), (1, .int l1), (2, .int l2), (3, .int l3), (4, .int l4), (5, .int l5)]) (st2 := [.ref l0, .int x2]) rfl <| zx_gR hy rfl e fun x3 _ e => zl hy 3 (pc2 := 33) (lv2 := [(0, .ref l0), (1, .int l1), (2, .int l2), (3, .int l3), (4, .int l4), (5, .int l5)]) (st2 := [.int (l3 + l5), .ref x3, .int x2]) rfl <| zx_aI hy (j := .iaload) (Or.inl ⟨rfl, rfl⟩) rfl e fun x4 _ e => zx_c hy rfl e (fun _ e => zl hy 2 (pc2 := 3) (lv2 := [(5, .int (l5 + Int32.ofInt 1)), (0, .ref l0), (1, .int l1), (2, .int l2), (3, .int l3), (4, .int l4)]) (st2 := []) rfl <| zt_sub (z_fc rfl (z_fc rfl (z_fc rfl (z_fc rfl (z_fc rfl (z_fc rfl (z_fn))))))) <| ih l0 l1 l2 l3 l4 (l5 + Int32.ofInt 1) h _ e) (fun _ e => zl hy 1 (pc2 := 38) (lv2 := [(0, .ref l0), (1, .int l1), (2, .int l2), (3, .int l3), (4, .int l4), (5, .int l5)]) (st2 := [.ref l0]) rfl <| zx_gR hy rfl e fun x5 _ e => zl hy 3 (pc2 := 45) (lv2 := [(0, .ref l0), (1, .int l1), (2, .int l2), (3, .int l3), (4, .int l4), (5, .int l5)]) (st2 := [.int (l1 + l5), .ref x5]) rfl <| zx_aI hy (j := .iaload) (Or.inl ⟨rfl, rfl⟩) rfl e fun x6 _ e => zl hy 1 (pc2 := 47) (lv2 := [(0, .ref l0), (1, .int l1), (2, .int l2), (3, .int l3), (4, .int l4), (5, .int l5)]) (st2 := [.ref l0, .int x6]) rfl <| zx_gR hy rfl e fun x7 _ e => zl hy 3 (pc2 := 54) (lv2 := [(0, .ref l0), (1, .int l1), (2, .int l2), (3, .int l3), (4, .int l4), (5, .int l5)]) (st2 := [.int (l3 + l5), .ref x7, .int x6]) rfl <| zx_aI hy (j := .iaload) (Or.inl ⟨rfl, rfl⟩) rfl e fun x8 _ e => zl hy 1 (pc2 := 56) (lv2 := [(0, .ref l0), (1, .int l1), (2, .int l2), (3, .int l3), (4, .int l4), (5, .int l5)]) (st2 := [.int (x6 - x8)]) rfl <| zx_ret hy rfl rfl rfl rfl e)))
def fM_compares (N : Nat) (l0 : Nat) (l1 : Int32) (l2 : Int32) (l3 : Int32) (l4 : Int32) (h : zH) : Option (Int32 × zH) := cond (fT h l0 5) (fM_compares_3 N N  l0 l1 l2 l3 l4 (Int32.ofInt 0) h) none
theorem sfM_compares {xs : List Int32} (N : Nat) (l0 : Nat) (l1 : Int32) (l2 : Int32) (l3 : Int32) (l4 : Int32) (h : zH) (r : Int32 × zH) (e : fM_compares N l0 l1 l2 l3 l4 h = some r) : zt xs (1) 153 0 [(0, .ref l0), (1, .int l1), (2, .int l2), (3, .int l3), (4, .int l4)] [] h 0 0 (zQ cI r) := by
  have hy := mfM_compares_m
  unfold fM_compares at e
  replace e := (cond_some e).2
  exact zl hy 2 (pc2 := 3) (lv2 := [(5, .int (Int32.ofInt 0)), (0, .ref l0), (1, .int l1), (2, .int l2), (3, .int l3), (4, .int l4)]) (st2 := []) rfl <| zt_sub (z_fc rfl (z_fc rfl (z_fc rfl (z_fc rfl (z_fc rfl (z_fc rfl (z_fn))))))) <| sfM_compares_3 N   N l0 l1 l2 l3 l4 (Int32.ofInt 0) h _ e
theorem rfM_compares (N : Nat) (l0 : Nat) (l1 : Int32) (l2 : Int32) (l3 : Int32) (l4 : Int32) (h : zH) (r : Int32 × zH) (e : fM_compares N l0 l1 l2 l3 l4 h = some r) : fT h l0 5 = true := by
  unfold fM_compares at e
  exact (cond_some e).1
/-- LyndonBenchModel.shelved(II)I -/
theorem mfM_shelved : z_me 154 zc_154 3 [] (some .int) := ⟨z_me0 rfl, rfl, rfl, rfl⟩
abbrev zC_154_m : List zE := [(0, .aload_n 0, 1, 0, 0), (1, .sipush 131, 3, 0, 0), (4, .bipush 40, 2, 0, 0), (6, .iload_n 1, 1, 0, 0), (7, .imul, 1, 0, 0), (8, .iadd, 1, 0, 0), (9, .aload_n 0, 1, 0, 0), (10, .getfield 7, 3, 5, 0), (13, .bipush 123, 2, 0, 0), (15, .iload_n 1, 1, 0, 0), (16, .iadd, 1, 0, 0), (17, .iaload, 1, 0, 0), (18, .sipush 131, 3, 0, 0), (21, .bipush 40, 2, 0, 0), (23, .iload_n 2, 1, 0, 0), (24, .imul, 1, 0, 0), (25, .iadd, 1, 0, 0), (26, .aload_n 0, 1, 0, 0), (27, .getfield 7, 3, 5, 0), (30, .bipush 123, 2, 0, 0), (32, .iload_n 2, 1, 0, 0), (33, .iadd, 1, 0, 0), (34, .iaload, 1, 0, 0), (35, .invokevirtual 62, 3, 153, 4), (38, .ireturn, 1, 0, 0)]
theorem mfM_shelved_m : z_me 154 zC_154_m 3 [] (some .int) := ⟨z_me1 (cd := zc_154) rfl (by decide +kernel), rfl, rfl, rfl⟩
def fM_shelved (N : Nat) (l0 : Nat) (l1 : Int32) (l2 : Int32) (h : zH) : Option (Int32 × zH) := cond (fT h l0 5) (b1 (fR h l0 5 0) fun x1 => b1 (fAI h x1 100 ((Int32.ofInt 123) + l1)) fun x2 => b1 (fR h l0 5 0) fun x3 => b1 (fAI h x3 100 ((Int32.ofInt 123) + l2)) fun x4 => b2 (fM_compares N l0 ((Int32.ofInt 131) + ((Int32.ofInt 40) * l1)) x2 ((Int32.ofInt 131) + ((Int32.ofInt 40) * l2)) x4 h) fun x5 h6 => some (x5, h6)) none
theorem sfM_shelved {xs : List Int32} (N : Nat) (l0 : Nat) (l1 : Int32) (l2 : Int32) (h : zH) (r : Int32 × zH) (e : fM_shelved N l0 l1 l2 h = some r) : zt xs (2) 154 0 [(0, .ref l0), (1, .int l1), (2, .int l2)] [] h 0 0 (zQ cI r) := by
  have hy := mfM_shelved_m
  unfold fM_shelved at e
  replace e := (cond_some e).2
  exact zl hy 1 (pc2 := 1) (lv2 := [(0, .ref l0), (1, .int l1), (2, .int l2)]) (st2 := [.ref l0]) rfl <| zx_sip hy (c := 131) rfl (by decide) <| zx_bip hy (c := 40) rfl (by decide) <| zl hy 4 (pc2 := 10) (lv2 := [(0, .ref l0), (1, .int l1), (2, .int l2)]) (st2 := [.ref l0, .int ((Int32.ofInt 131) + ((Int32.ofInt 40) * l1)), .ref l0]) rfl <| zx_gR hy rfl e fun x1 _ e => zx_bip hy (c := 123) rfl (by decide) <| zl hy 2 (pc2 := 17) (lv2 := [(0, .ref l0), (1, .int l1), (2, .int l2)]) (st2 := [.int ((Int32.ofInt 123) + l1), .ref x1, .int ((Int32.ofInt 131) + ((Int32.ofInt 40) * l1)), .ref l0]) rfl <| zx_aI hy (j := .iaload) (Or.inl ⟨rfl, rfl⟩) rfl e fun x2 _ e => zx_sip hy (c := 131) rfl (by decide) <| zx_bip hy (c := 40) rfl (by decide) <| zl hy 4 (pc2 := 27) (lv2 := [(0, .ref l0), (1, .int l1), (2, .int l2)]) (st2 := [.ref l0, .int ((Int32.ofInt 131) + ((Int32.ofInt 40) * l2)), .int x2, .int ((Int32.ofInt 131) + ((Int32.ofInt 40) * l1)), .ref l0]) rfl <| zx_gR hy rfl e fun x3 _ e => zx_bip hy (c := 123) rfl (by decide) <| zl hy 2 (pc2 := 34) (lv2 := [(0, .ref l0), (1, .int l1), (2, .int l2)]) (st2 := [.int ((Int32.ofInt 123) + l2), .ref x3, .int ((Int32.ofInt 131) + ((Int32.ofInt 40) * l2)), .int x2, .int ((Int32.ofInt 131) + ((Int32.ofInt 40) * l1)), .ref l0]) rfl <| zx_aI hy (j := .iaload) (Or.inl ⟨rfl, rfl⟩) rfl e fun x4 _ e => zx_call hy (as := [.ref l0, .int ((Int32.ofInt 131) + ((Int32.ofInt 40) * l1)), .int x2, .int ((Int32.ofInt 131) + ((Int32.ofInt 40) * l2)), .int x4]) (rest := []) (ov := (fun v => some (.int v))) (fun _ => rfl) rfl rfl (Or.inl rfl) rfl rfl (Nat.le_of_ble_eq_true rfl) (Nat.le_of_ble_eq_true rfl) (fun _ e _ => z_rcvT (rfM_compares N l0 ((Int32.ofInt 131) + ((Int32.ofInt 40) * l1)) x2 ((Int32.ofInt 131) + ((Int32.ofInt 40) * l2)) x4 h _ e)) (fun _ e => zt_deep (Nat.le_of_ble_eq_true rfl) (sfM_compares N l0 ((Int32.ofInt 131) + ((Int32.ofInt 40) * l1)) x2 ((Int32.ofInt 131) + ((Int32.ofInt 40) * l2)) x4 h _ e)) e fun x5 h6 _ e => zx_ret hy rfl rfl rfl rfl e
theorem rfM_shelved (N : Nat) (l0 : Nat) (l1 : Int32) (l2 : Int32) (h : zH) (r : Int32 × zH) (e : fM_shelved N l0 l1 l2 h = some r) : fT h l0 5 = true := by
  unfold fM_shelved at e
  exact (cond_some e).1
/-- LyndonBenchModel.loads()V -/
theorem mfM_loads : z_me 155 zc_155 2 [] none := ⟨z_me0 rfl, rfl, rfl, rfl⟩
abbrev zC_155_12 : List zE := [(12, .iload_n 1, 1, 0, 0), (13, .aload_n 0, 1, 0, 0), (14, .getfield 66, 3, 5, 14), (17, .if_icmp .ge 23, 3, 40, 0), (20, .aload_n 0, 1, 0, 0), (21, .getfield 28, 3, 5, 8), (24, .iload_n 1, 1, 0, 0), (25, .aload_n 0, 1, 0, 0), (26, .getfield 7, 3, 5, 0), (29, .iconst 3, 1, 0, 0), (30, .iload_n 1, 1, 0, 0), (31, .iadd, 1, 0, 0), (32, .iaload, 1, 0, 0), (33, .iastore, 1, 0, 0), (34, .iinc 1 1, 3, 0, 0), (37, .goto (-25), 3, 12, 0), (40, .return_, 1, 0, 0)]
theorem mfM_loads_12 : z_me 155 zC_155_12 2 [] none := ⟨z_me1 (cd := zc_155) rfl (by decide +kernel), rfl, rfl, rfl⟩
abbrev zC_155_m : List zE := [(0, .aload_n 0, 1, 0, 0), (1, .aload_n 0, 1, 0, 0), (2, .getfield 7, 3, 5, 0), (5, .iconst 1, 1, 0, 0), (6, .iaload, 1, 0, 0), (7, .putfield 66, 3, 5, 14), (10, .iconst 0, 1, 0, 0), (11, .istore_n 1, 1, 0, 0)]
theorem mfM_loads_m : z_me 155 zC_155_m 2 [] none := ⟨z_me1 (cd := zc_155) rfl (by decide +kernel), rfl, rfl, rfl⟩
def fM_loads_12 (N : Nat) : Nat → Nat → Int32 → zH → Option (Unit × zH)
  | 0, _, _, _ => none
  | n + 1, l0, l1, h => b1 (fI h l0 5 14) fun x4 => cond (z_cmp .ge l1 x4) (some ((), h)) (b1 (fR h l0 5 8) fun x5 => b1 (fR h l0 5 0) fun x6 => b1 (fAI h x6 100 ((Int32.ofInt 3) + l1)) fun x7 => b1 (fAS h x5 100 l1 (.int x7)) fun h8 => fM_loads_12 N n  l0 (l1 + Int32.ofInt 1) h8)
theorem sfM_loads_12 {xs : List Int32} (N : Nat)   : ∀ (n : Nat) (l0 : Nat) (l1 : Int32) (h : zH) (r : Unit × zH), fM_loads_12 N n  l0 l1 h = some r → zt xs (1) 155 12 [(0, .ref l0), (1, .int l1)] [] h 0 0 (zQ cV r) := by
  have hy := mfM_loads_12
  intro n
  induction n with
  | zero =>
    intro l0 l1 h r e
    rw [fM_loads_12] at e
    cases e
  | succ n ih =>
    intro l0 l1 h r e
    rw [fM_loads_12] at e
    exact zl hy 2 (pc2 := 14) (lv2 := [(0, .ref l0), (1, .int l1)]) (st2 := [.ref l0, .int l1]) rfl <| zx_gI hy rfl e fun x4 _ e => zx_c hy rfl e (fun _ e => zx_retV hy rfl rfl e) (fun _ e => zl hy 1 (pc2 := 21) (lv2 := [(0, .ref l0), (1, .int l1)]) (st2 := [.ref l0]) rfl <| zx_gR hy rfl e fun x5 _ e => zl hy 2 (pc2 := 26) (lv2 := [(0, .ref l0), (1, .int l1)]) (st2 := [.ref l0, .int l1, .ref x5]) rfl <| zx_gR hy rfl e fun x6 _ e => zl hy 3 (pc2 := 32) (lv2 := [(0, .ref l0), (1, .int l1)]) (st2 := [.int ((Int32.ofInt 3) + l1), .ref x6, .int l1, .ref x5]) rfl <| zx_aI hy (j := .iaload) (Or.inl ⟨rfl, rfl⟩) rfl e fun x7 _ e => zx_sI hy (j := .iastore) (Or.inl ⟨rfl, rfl, rfl⟩) rfl e fun h8 _ e => zl hy 2 (pc2 := 12) (lv2 := [(1, .int (l1 + Int32.ofInt 1)), (0, .ref l0)]) (st2 := []) rfl <| zt_sub (z_fc rfl (z_fc rfl (z_fn))) <| ih l0 (l1 + Int32.ofInt 1) h8 _ e)
def fM_loads (N : Nat) (l0 : Nat) (h : zH) : Option (Unit × zH) := cond (fT h l0 5) (b1 (fR h l0 5 0) fun x1 => b1 (fAI h x1 100 (Int32.ofInt 1)) fun x2 => b1 (fS h l0 5 14 (.int x2)) fun h3 => fM_loads_12 N N  l0 (Int32.ofInt 0) h3) none
theorem sfM_loads {xs : List Int32} (N : Nat) (l0 : Nat) (h : zH) (r : Unit × zH) (e : fM_loads N l0 h = some r) : zt xs (1) 155 0 [(0, .ref l0)] [] h 0 0 (zQ cV r) := by
  have hy := mfM_loads_m
  unfold fM_loads at e
  replace e := (cond_some e).2
  exact zl hy 2 (pc2 := 2) (lv2 := [(0, .ref l0)]) (st2 := [.ref l0, .ref l0]) rfl <| zx_gR hy rfl e fun x1 _ e => zl hy 1 (pc2 := 6) (lv2 := [(0, .ref l0)]) (st2 := [.int (Int32.ofInt 1), .ref x1, .ref l0]) rfl <| zx_aI hy (j := .iaload) (Or.inl ⟨rfl, rfl⟩) rfl e fun x2 _ e => zx_pf hy rfl e (rfl) fun h3 _ e => zl hy 2 (pc2 := 12) (lv2 := [(1, .int (Int32.ofInt 0)), (0, .ref l0)]) (st2 := []) rfl <| zt_sub (z_fc rfl (z_fc rfl (z_fn))) <| sfM_loads_12 N   N l0 (Int32.ofInt 0) h3 _ e
theorem rfM_loads (N : Nat) (l0 : Nat) (h : zH) (r : Unit × zH) (e : fM_loads N l0 h = some r) : fT h l0 5 = true := by
  unfold fM_loads at e
  exact (cond_some e).1
/-- LyndonBenchModel.adds(I)V -/
theorem mfM_adds : z_me 156 zc_156 2 [] none := ⟨z_me0 rfl, rfl, rfl, rfl⟩
def fM_adds (N : Nat) (l0 : Nat) (l1 : Int32) (h : zH) : Option (Unit × zH) := cond (fT h l0 5) (b1 (fR h l0 5 8) fun x1 => b1 (fI h l0 5 14) fun x2 => b1 (fAS h x1 100 x2 (.int l1)) fun h3 => b1 (fI h3 l0 5 14) fun x4 => b1 (fS h3 l0 5 14 (.int (x4 + (Int32.ofInt 1)))) fun h5 => some ((), h5)) none
theorem sfM_adds {xs : List Int32} (N : Nat) (l0 : Nat) (l1 : Int32) (h : zH) (r : Unit × zH) (e : fM_adds N l0 l1 h = some r) : zt xs (1) 156 0 [(0, .ref l0), (1, .int l1)] [] h 0 0 (zQ cV r) := by
  have hy := mfM_adds
  unfold fM_adds at e
  replace e := (cond_some e).2
  exact zl hy 1 (pc2 := 1) (lv2 := [(0, .ref l0), (1, .int l1)]) (st2 := [.ref l0]) rfl <| zx_gR hy rfl e fun x1 _ e => zl hy 1 (pc2 := 5) (lv2 := [(0, .ref l0), (1, .int l1)]) (st2 := [.ref l0, .ref x1]) rfl <| zx_gI hy rfl e fun x2 _ e => zl hy 1 (pc2 := 9) (lv2 := [(0, .ref l0), (1, .int l1)]) (st2 := [.int l1, .int x2, .ref x1]) rfl <| zx_sI hy (j := .iastore) (Or.inl ⟨rfl, rfl, rfl⟩) rfl e fun h3 _ e => zl hy 2 (pc2 := 12) (lv2 := [(0, .ref l0), (1, .int l1)]) (st2 := [.ref l0, .ref l0]) rfl <| zx_gI hy rfl e fun x4 _ e => zl hy 2 (pc2 := 17) (lv2 := [(0, .ref l0), (1, .int l1)]) (st2 := [.int (x4 + (Int32.ofInt 1)), .ref l0]) rfl <| zx_pf hy rfl e (rfl) fun h5 _ e => zx_retV hy rfl rfl e
theorem rfM_adds (N : Nat) (l0 : Nat) (l1 : Int32) (h : zH) (r : Unit × zH) (e : fM_adds N l0 l1 h = some r) : fT h l0 5 = true := by
  unfold fM_adds at e
  exact (cond_some e).1
/-- LyndonBenchModel.loadsRotated(I)V -/
theorem mfM_loadsRotated : z_me 157 zc_157 3 [] none := ⟨z_me0 rfl, rfl, rfl, rfl⟩
abbrev zC_157_12 : List zE := [(12, .iload_n 2, 1, 0, 0), (13, .aload_n 0, 1, 0, 0), (14, .getfield 66, 3, 5, 14), (17, .if_icmp .ge 30, 3, 47, 0), (20, .aload_n 0, 1, 0, 0), (21, .getfield 28, 3, 5, 8), (24, .iload_n 2, 1, 0, 0), (25, .aload_n 0, 1, 0, 0), (26, .getfield 7, 3, 5, 0), (29, .iconst 3, 1, 0, 0), (30, .iload_n 2, 1, 0, 0), (31, .iload_n 1, 1, 0, 0), (32, .iadd, 1, 0, 0), (33, .aload_n 0, 1, 0, 0), (34, .getfield 66, 3, 5, 14), (37, .irem, 1, 0, 0), (38, .iadd, 1, 0, 0), (39, .iaload, 1, 0, 0), (40, .iastore, 1, 0, 0), (41, .iinc 2 1, 3, 0, 0), (44, .goto (-32), 3, 12, 0), (47, .return_, 1, 0, 0)]
theorem mfM_loadsRotated_12 : z_me 157 zC_157_12 3 [] none := ⟨z_me1 (cd := zc_157) rfl (by decide +kernel), rfl, rfl, rfl⟩
abbrev zC_157_m : List zE := [(0, .aload_n 0, 1, 0, 0), (1, .aload_n 0, 1, 0, 0), (2, .getfield 7, 3, 5, 0), (5, .iconst 1, 1, 0, 0), (6, .iaload, 1, 0, 0), (7, .putfield 66, 3, 5, 14), (10, .iconst 0, 1, 0, 0), (11, .istore_n 2, 1, 0, 0)]
theorem mfM_loadsRotated_m : z_me 157 zC_157_m 3 [] none := ⟨z_me1 (cd := zc_157) rfl (by decide +kernel), rfl, rfl, rfl⟩
def fM_loadsRotated_12 (N : Nat) : Nat → Nat → Int32 → Int32 → zH → Option (Unit × zH)
  | 0, _, _, _, _ => none
  | n + 1, l0, l1, l2, h => b1 (fI h l0 5 14) fun x4 => cond (z_cmp .ge l2 x4) (some ((), h)) (b1 (fR h l0 5 8) fun x5 => b1 (fR h l0 5 0) fun x6 => b1 (fI h l0 5 14) fun x7 => (if x7 = Int32.ofInt 0 then none else b1 (fAI h x6 100 ((Int32.ofInt 3) + ((l2 + l1) - (l2 + l1) / x7 * x7))) fun x9 => b1 (fAS h x5 100 l2 (.int x9)) fun h10 => fM_loadsRotated_12 N n  l0 l1 (l2 + Int32.ofInt 1) h10))
theorem sfM_loadsRotated_12 {xs : List Int32} (N : Nat)   : ∀ (n : Nat) (l0 : Nat) (l1 : Int32) (l2 : Int32) (h : zH) (r : Unit × zH), fM_loadsRotated_12 N n  l0 l1 l2 h = some r → zt xs (1) 157 12 [(0, .ref l0), (1, .int l1), (2, .int l2)] [] h 0 0 (zQ cV r) := by
  have hy := mfM_loadsRotated_12
  intro n
  induction n with
  | zero =>
    intro l0 l1 l2 h r e
    rw [fM_loadsRotated_12] at e
    cases e
  | succ n ih =>
    intro l0 l1 l2 h r e
    rw [fM_loadsRotated_12] at e
    exact zl hy 2 (pc2 := 14) (lv2 := [(0, .ref l0), (1, .int l1), (2, .int l2)]) (st2 := [.ref l0, .int l2]) rfl <| zx_gI hy rfl e fun x4 _ e => zx_c hy rfl e (fun _ e => zx_retV hy rfl rfl e) (fun _ e => zl hy 1 (pc2 := 21) (lv2 := [(0, .ref l0), (1, .int l1), (2, .int l2)]) (st2 := [.ref l0]) rfl <| zx_gR hy rfl e fun x5 _ e => zl hy 2 (pc2 := 26) (lv2 := [(0, .ref l0), (1, .int l1), (2, .int l2)]) (st2 := [.ref l0, .int l2, .ref x5]) rfl <| zx_gR hy rfl e fun x6 _ e => zl hy 5 (pc2 := 34) (lv2 := [(0, .ref l0), (1, .int l1), (2, .int l2)]) (st2 := [.ref l0, .int (l2 + l1), .int (Int32.ofInt 3), .ref x6, .int l2, .ref x5]) rfl <| zx_gI hy rfl e fun x7 _ e => zx_rem hy (G := fun _ => b1 (fAI h x6 100 ((Int32.ofInt 3) + ((l2 + l1) - (l2 + l1) / x7 * x7))) fun x9 => b1 (fAS h x5 100 l2 (.int x9)) fun h10 => fM_loadsRotated_12 N n  l0 l1 (l2 + Int32.ofInt 1) h10) rfl e fun _ e => zl hy 1 (pc2 := 39) (lv2 := [(0, .ref l0), (1, .int l1), (2, .int l2)]) (st2 := [.int ((Int32.ofInt 3) + ((l2 + l1) - (l2 + l1) / x7 * x7)), .ref x6, .int l2, .ref x5]) rfl <| zx_aI hy (j := .iaload) (Or.inl ⟨rfl, rfl⟩) rfl e fun x9 _ e => zx_sI hy (j := .iastore) (Or.inl ⟨rfl, rfl, rfl⟩) rfl e fun h10 _ e => zl hy 2 (pc2 := 12) (lv2 := [(2, .int (l2 + Int32.ofInt 1)), (0, .ref l0), (1, .int l1)]) (st2 := []) rfl <| zt_sub (z_fc rfl (z_fc rfl (z_fc rfl (z_fn)))) <| ih l0 l1 (l2 + Int32.ofInt 1) h10 _ e)
def fM_loadsRotated (N : Nat) (l0 : Nat) (l1 : Int32) (h : zH) : Option (Unit × zH) := cond (fT h l0 5) (b1 (fR h l0 5 0) fun x1 => b1 (fAI h x1 100 (Int32.ofInt 1)) fun x2 => b1 (fS h l0 5 14 (.int x2)) fun h3 => fM_loadsRotated_12 N N  l0 l1 (Int32.ofInt 0) h3) none
theorem sfM_loadsRotated {xs : List Int32} (N : Nat) (l0 : Nat) (l1 : Int32) (h : zH) (r : Unit × zH) (e : fM_loadsRotated N l0 l1 h = some r) : zt xs (1) 157 0 [(0, .ref l0), (1, .int l1)] [] h 0 0 (zQ cV r) := by
  have hy := mfM_loadsRotated_m
  unfold fM_loadsRotated at e
  replace e := (cond_some e).2
  exact zl hy 2 (pc2 := 2) (lv2 := [(0, .ref l0), (1, .int l1)]) (st2 := [.ref l0, .ref l0]) rfl <| zx_gR hy rfl e fun x1 _ e => zl hy 1 (pc2 := 6) (lv2 := [(0, .ref l0), (1, .int l1)]) (st2 := [.int (Int32.ofInt 1), .ref x1, .ref l0]) rfl <| zx_aI hy (j := .iaload) (Or.inl ⟨rfl, rfl⟩) rfl e fun x2 _ e => zx_pf hy rfl e (rfl) fun h3 _ e => zl hy 2 (pc2 := 12) (lv2 := [(2, .int (Int32.ofInt 0)), (0, .ref l0), (1, .int l1)]) (st2 := []) rfl <| zt_sub (z_fc rfl (z_fc rfl (z_fc rfl (z_fn)))) <| sfM_loadsRotated_12 N   N l0 l1 (Int32.ofInt 0) h3 _ e
theorem rfM_loadsRotated (N : Nat) (l0 : Nat) (l1 : Int32) (h : zH) (r : Unit × zH) (e : fM_loadsRotated N l0 l1 h = some r) : fT h l0 5 = true := by
  unfold fM_loadsRotated at e
  exact (cond_some e).1
end
section
/-! F functions, by program. -/
/-- LyndonBenchModel.isLess(II)Z -/
theorem mfM_isLess : z_me 158 zc_158 5 [] (some .boolean) := ⟨z_me0 rfl, rfl, rfl, rfl⟩
abbrev zC_158_49 : List zE := [(49, .ireturn, 1, 0, 0)]
theorem mfM_isLess_49 : z_me 158 zC_158_49 5 [] (some .boolean) := ⟨z_me1 (cd := zc_158) rfl (by decide +kernel), rfl, rfl, rfl⟩
abbrev zC_158_2 : List zE := [(2, .iload_n 3, 1, 0, 0), (3, .aload_n 0, 1, 0, 0), (4, .getfield 66, 3, 5, 14), (7, .if_icmp .ge 49, 3, 56, 0), (10, .aload_n 0, 1, 0, 0), (11, .getfield 28, 3, 5, 8), (14, .iload_n 2, 1, 0, 0), (15, .iload_n 3, 1, 0, 0), (16, .iadd, 1, 0, 0), (17, .iload_n 1, 1, 0, 0), (18, .isub, 1, 0, 0), (19, .iaload, 1, 0, 0), (20, .istore 4, 2, 0, 0), (22, .aload_n 0, 1, 0, 0), (23, .getfield 28, 3, 5, 8), (26, .iload_n 3, 1, 0, 0), (27, .iaload, 1, 0, 0), (28, .iload 4, 2, 0, 0), (30, .if_icmp .eq 20, 3, 50, 0), (33, .aload_n 0, 1, 0, 0), (34, .getfield 28, 3, 5, 8), (37, .iload_n 3, 1, 0, 0), (38, .iaload, 1, 0, 0), (39, .iload 4, 2, 0, 0), (41, .if_icmp .ge 7, 3, 48, 0), (44, .iconst 1, 1, 0, 0), (45, .goto 4, 3, 49, 0), (48, .iconst 0, 1, 0, 0), (50, .iinc 3 1, 3, 0, 0), (53, .goto (-51), 3, 2, 0), (56, .iconst 1, 1, 0, 0), (57, .ireturn, 1, 0, 0)]
theorem mfM_isLess_2 : z_me 158 zC_158_2 5 [] (some .boolean) := ⟨z_me1 (cd := zc_158) rfl (by decide +kernel), rfl, rfl, rfl⟩
abbrev zC_158_m : List zE := [(0, .iload_n 1, 1, 0, 0), (1, .istore_n 3, 1, 0, 0)]
theorem mfM_isLess_m : z_me 158 zC_158_m 5 [] (some .boolean) := ⟨z_me1 (cd := zc_158) rfl (by decide +kernel), rfl, rfl, rfl⟩
def fM_isLess_49 (N : Nat)  (s0 : Int32) (h : zH) : Option (Int32 × zH) := cond (decide (s0 = Int32.ofInt 0) || decide (s0 = Int32.ofInt 1)) (some (s0, h)) none
theorem sfM_isLess_49 {xs : List Int32} (N : Nat)   (s0 : Int32) (h : zH) (r : Int32 × zH) (e : fM_isLess_49 N  s0 h = some r) : zt xs (1) 158 49 [] [.int s0] h 0 0 (zQ cI r) := by
  have hy := mfM_isLess_49
  unfold fM_isLess_49 at e
  exact zx_retB hy rfl rfl e
def fM_isLess_2 (N : Nat) : Nat → Nat → Int32 → Int32 → Int32 → zH → Option (Int32 × zH)
  | 0, _, _, _, _, _ => none
  | n + 1, l0, l1, l2, l3, h => b1 (fI h l0 5 14) fun x1 => cond (z_cmp .ge l3 x1) (some ((Int32.ofInt 1), h)) (b1 (fR h l0 5 8) fun x2 => b1 (fAI h x2 100 ((l2 + l3) - l1)) fun x3 => b1 (fR h l0 5 8) fun x4 => b1 (fAI h x4 100 l3) fun x5 => cond (z_cmp .eq x5 x3) (fM_isLess_2 N n  l0 l1 l2 (l3 + Int32.ofInt 1) h) (b1 (fR h l0 5 8) fun x6 => b1 (fAI h x6 100 l3) fun x7 => cond (z_cmp .ge x7 x3) (fM_isLess_49 N  (Int32.ofInt 0) h) (fM_isLess_49 N  (Int32.ofInt 1) h)))
theorem sfM_isLess_2 {xs : List Int32} (N : Nat)   : ∀ (n : Nat) (l0 : Nat) (l1 : Int32) (l2 : Int32) (l3 : Int32) (h : zH) (r : Int32 × zH), fM_isLess_2 N n  l0 l1 l2 l3 h = some r → zt xs (1) 158 2 [(0, .ref l0), (1, .int l1), (2, .int l2), (3, .int l3)] [] h 0 0 (zQ cI r) := by
  have hy := mfM_isLess_2
  intro n
  induction n with
  | zero =>
    intro l0 l1 l2 l3 h r e
    rw [fM_isLess_2] at e
    cases e
  | succ n ih =>
    intro l0 l1 l2 l3 h r e
    rw [fM_isLess_2] at e
    exact zl hy 2 (pc2 := 4) (lv2 := [(0, .ref l0), (1, .int l1), (2, .int l2), (3, .int l3)]) (st2 := [.ref l0, .int l3]) rfl <| zx_gI hy rfl e fun x1 _ e => zx_c hy rfl e (fun _ e => zl hy 1 (pc2 := 57) (lv2 := [(0, .ref l0), (1, .int l1), (2, .int l2), (3, .int l3)]) (st2 := [.int (Int32.ofInt 1)]) rfl <| zx_ret hy (v := .int (Int32.ofInt 1)) rfl rfl (by decide) rfl e) (fun _ e => zl hy 1 (pc2 := 11) (lv2 := [(0, .ref l0), (1, .int l1), (2, .int l2), (3, .int l3)]) (st2 := [.ref l0]) rfl <| zx_gR hy rfl e fun x2 _ e => zl hy 5 (pc2 := 19) (lv2 := [(0, .ref l0), (1, .int l1), (2, .int l2), (3, .int l3)]) (st2 := [.int ((l2 + l3) - l1), .ref x2]) rfl <| zx_aI hy (j := .iaload) (Or.inl ⟨rfl, rfl⟩) rfl e fun x3 _ e => zl hy 2 (pc2 := 23) (lv2 := [(4, .int x3), (0, .ref l0), (1, .int l1), (2, .int l2), (3, .int l3)]) (st2 := [.ref l0]) rfl <| zx_gR hy rfl e fun x4 _ e => zl hy 1 (pc2 := 27) (lv2 := [(4, .int x3), (0, .ref l0), (1, .int l1), (2, .int l2), (3, .int l3)]) (st2 := [.int l3, .ref x4]) rfl <| zx_aI hy (j := .iaload) (Or.inl ⟨rfl, rfl⟩) rfl e fun x5 _ e => zl hy 1 (pc2 := 30) (lv2 := [(4, .int x3), (0, .ref l0), (1, .int l1), (2, .int l2), (3, .int l3)]) (st2 := [.int x3, .int x5]) rfl <| zx_c hy rfl e (fun _ e => zl hy 2 (pc2 := 2) (lv2 := [(3, .int (l3 + Int32.ofInt 1)), (4, .int x3), (0, .ref l0), (1, .int l1), (2, .int l2)]) (st2 := []) rfl <| zt_sub (z_fc rfl (z_fc rfl (z_fc rfl (z_fc rfl (z_fn))))) <| ih l0 l1 l2 (l3 + Int32.ofInt 1) h _ e) (fun _ e => zl hy 1 (pc2 := 34) (lv2 := [(4, .int x3), (0, .ref l0), (1, .int l1), (2, .int l2), (3, .int l3)]) (st2 := [.ref l0]) rfl <| zx_gR hy rfl e fun x6 _ e => zl hy 1 (pc2 := 38) (lv2 := [(4, .int x3), (0, .ref l0), (1, .int l1), (2, .int l2), (3, .int l3)]) (st2 := [.int l3, .ref x6]) rfl <| zx_aI hy (j := .iaload) (Or.inl ⟨rfl, rfl⟩) rfl e fun x7 _ e => zl hy 1 (pc2 := 41) (lv2 := [(4, .int x3), (0, .ref l0), (1, .int l1), (2, .int l2), (3, .int l3)]) (st2 := [.int x3, .int x7]) rfl <| zx_c hy rfl e (fun _ e => zl hy 1 (pc2 := 49) (lv2 := [(4, .int x3), (0, .ref l0), (1, .int l1), (2, .int l2), (3, .int l3)]) (st2 := [.int (Int32.ofInt 0)]) rfl <| zt_sub (z_fn) <| sfM_isLess_49 N   (Int32.ofInt 0) h _ e) (fun _ e => zl hy 2 (pc2 := 49) (lv2 := [(4, .int x3), (0, .ref l0), (1, .int l1), (2, .int l2), (3, .int l3)]) (st2 := [.int (Int32.ofInt 1)]) rfl <| zt_sub (z_fn) <| sfM_isLess_49 N   (Int32.ofInt 1) h _ e)))
def fM_isLess (N : Nat) (l0 : Nat) (l1 : Int32) (l2 : Int32) (h : zH) : Option (Int32 × zH) := cond (fT h l0 5) (fM_isLess_2 N N  l0 l1 l2 l1 h) none
theorem sfM_isLess {xs : List Int32} (N : Nat) (l0 : Nat) (l1 : Int32) (l2 : Int32) (h : zH) (r : Int32 × zH) (e : fM_isLess N l0 l1 l2 h = some r) : zt xs (1) 158 0 [(0, .ref l0), (1, .int l1), (2, .int l2)] [] h 0 0 (zQ cI r) := by
  have hy := mfM_isLess_m
  unfold fM_isLess at e
  replace e := (cond_some e).2
  exact zl hy 2 (pc2 := 2) (lv2 := [(3, .int l1), (0, .ref l0), (1, .int l1), (2, .int l2)]) (st2 := []) rfl <| zt_sub (z_fc rfl (z_fc rfl (z_fc rfl (z_fc rfl (z_fn))))) <| sfM_isLess_2 N   N l0 l1 l2 l1 h _ e
theorem rfM_isLess (N : Nat) (l0 : Nat) (l1 : Int32) (l2 : Int32) (h : zH) (r : Int32 × zH) (e : fM_isLess N l0 l1 l2 h = some r) : fT h l0 5 = true := by
  unfold fM_isLess at e
  exact (cond_some e).1
/-- LyndonBenchModel.cuts()I -/
theorem mfM_cuts : z_me 159 zc_159 3 [] (some .int) := ⟨z_me0 rfl, rfl, rfl, rfl⟩
abbrev zC_159_42 : List zE := [(42, .iinc 2 1, 3, 0, 0), (45, .goto (-41), 3, 4, 0)]
theorem mfM_cuts_42 : z_me 159 zC_159_42 3 [] (some .int) := ⟨z_me1 (cd := zc_159) rfl (by decide +kernel), rfl, rfl, rfl⟩
abbrev zC_159_32 : List zE := [(32, .aload_n 0, 1, 0, 0), (33, .getfield 31, 3, 5, 9), (36, .iload_n 1, 1, 0, 0), (37, .iload_n 2, 1, 0, 0), (38, .iastore, 1, 0, 0), (39, .iinc 1 1, 3, 0, 0)]
theorem mfM_cuts_32 : z_me 159 zC_159_32 3 [] (some .int) := ⟨z_me1 (cd := zc_159) rfl (by decide +kernel), rfl, rfl, rfl⟩
abbrev zC_159_4 : List zE := [(4, .iload_n 2, 1, 0, 0), (5, .aload_n 0, 1, 0, 0), (6, .getfield 66, 3, 5, 14), (9, .if_icmp .ge 39, 3, 48, 0), (12, .iload_n 1, 1, 0, 0), (13, .ifCond .eq 19, 3, 32, 0), (16, .aload_n 0, 1, 0, 0), (17, .iload_n 2, 1, 0, 0), (18, .aload_n 0, 1, 0, 0), (19, .getfield 31, 3, 5, 9), (22, .iload_n 1, 1, 0, 0), (23, .iconst 1, 1, 0, 0), (24, .isub, 1, 0, 0), (25, .iaload, 1, 0, 0), (26, .invokevirtual 69, 3, 158, 2), (29, .ifCond .eq 13, 3, 42, 0), (48, .aload_n 0, 1, 0, 0), (49, .getfield 31, 3, 5, 9), (52, .iload_n 1, 1, 0, 0), (53, .aload_n 0, 1, 0, 0), (54, .getfield 66, 3, 5, 14), (57, .iastore, 1, 0, 0), (58, .iload_n 1, 1, 0, 0), (59, .ireturn, 1, 0, 0)]
theorem mfM_cuts_4 : z_me 159 zC_159_4 3 [] (some .int) := ⟨z_me1 (cd := zc_159) rfl (by decide +kernel), rfl, rfl, rfl⟩
abbrev zC_159_m : List zE := [(0, .iconst 0, 1, 0, 0), (1, .istore_n 1, 1, 0, 0), (2, .iconst 0, 1, 0, 0), (3, .istore_n 2, 1, 0, 0)]
theorem mfM_cuts_m : z_me 159 zC_159_m 3 [] (some .int) := ⟨z_me1 (cd := zc_159) rfl (by decide +kernel), rfl, rfl, rfl⟩
def fM_cuts_42 (N : Nat) (k4 : Nat → Int32 → Int32 → zH → Option (Int32 × zH)) (l0 : Nat) (l1 : Int32) (l2 : Int32) (h : zH) : Option (Int32 × zH) := k4 l0 l1 (l2 + Int32.ofInt 1) h
theorem sfM_cuts_42 {xs : List Int32} (N : Nat) (k4 : Nat → Int32 → Int32 → zH → Option (Int32 × zH))  (hk4 : ∀ (l0 : Nat) (l1 : Int32) (l2 : Int32) (h : zH) (r : Int32 × zH), k4 l0 l1 l2 h = some r → zt xs (2) 159 4 [(0, .ref l0), (1, .int l1), (2, .int l2)] [] h 0 0 (zQ cI r)) (l0 : Nat) (l1 : Int32) (l2 : Int32) (h : zH) (r : Int32 × zH) (e : fM_cuts_42 N k4 l0 l1 l2 h = some r) : zt xs (2) 159 42 [(0, .ref l0), (1, .int l1), (2, .int l2)] [] h 0 0 (zQ cI r) := by
  have hy := mfM_cuts_42
  unfold fM_cuts_42 at e
  exact zl hy 2 (pc2 := 4) (lv2 := [(2, .int (l2 + Int32.ofInt 1)), (0, .ref l0), (1, .int l1)]) (st2 := []) rfl <| zt_sub (z_fc rfl (z_fc rfl (z_fc rfl (z_fn)))) <| hk4 l0 l1 (l2 + Int32.ofInt 1) h _ e
def fM_cuts_32 (N : Nat) (k4 : Nat → Int32 → Int32 → zH → Option (Int32 × zH)) (l0 : Nat) (l1 : Int32) (l2 : Int32) (h : zH) : Option (Int32 × zH) := b1 (fR h l0 5 9) fun x5 => b1 (fAS h x5 100 l1 (.int l2)) fun h6 => fM_cuts_42 N k4 l0 (l1 + Int32.ofInt 1) l2 h6
theorem sfM_cuts_32 {xs : List Int32} (N : Nat) (k4 : Nat → Int32 → Int32 → zH → Option (Int32 × zH))  (hk4 : ∀ (l0 : Nat) (l1 : Int32) (l2 : Int32) (h : zH) (r : Int32 × zH), k4 l0 l1 l2 h = some r → zt xs (2) 159 4 [(0, .ref l0), (1, .int l1), (2, .int l2)] [] h 0 0 (zQ cI r)) (l0 : Nat) (l1 : Int32) (l2 : Int32) (h : zH) (r : Int32 × zH) (e : fM_cuts_32 N k4 l0 l1 l2 h = some r) : zt xs (2) 159 32 [(0, .ref l0), (1, .int l1), (2, .int l2)] [] h 0 0 (zQ cI r) := by
  have hy := mfM_cuts_32
  unfold fM_cuts_32 at e
  exact zl hy 1 (pc2 := 33) (lv2 := [(0, .ref l0), (1, .int l1), (2, .int l2)]) (st2 := [.ref l0]) rfl <| zx_gR hy rfl e fun x5 _ e => zl hy 2 (pc2 := 38) (lv2 := [(0, .ref l0), (1, .int l1), (2, .int l2)]) (st2 := [.int l2, .int l1, .ref x5]) rfl <| zx_sI hy (j := .iastore) (Or.inl ⟨rfl, rfl, rfl⟩) rfl e fun h6 _ e => zl hy 1 (pc2 := 42) (lv2 := [(1, .int (l1 + Int32.ofInt 1)), (0, .ref l0), (2, .int l2)]) (st2 := []) rfl <| zt_sub (z_fc rfl (z_fc rfl (z_fc rfl (z_fn)))) <| sfM_cuts_42 N k4 hk4 l0 (l1 + Int32.ofInt 1) l2 h6 _ e
def fM_cuts_4 (N : Nat) : Nat → Nat → Int32 → Int32 → zH → Option (Int32 × zH)
  | 0, _, _, _, _ => none
  | n + 1, l0, l1, l2, h => b1 (fI h l0 5 14) fun x1 => cond (z_cmp .ge l2 x1) (b1 (fR h l0 5 9) fun x2 => b1 (fI h l0 5 14) fun x3 => b1 (fAS h x2 100 l1 (.int x3)) fun h4 => some (l1, h4)) (cond (z_cmp .eq l1 (Int32.ofInt 0)) (fM_cuts_32 N (fM_cuts_4 N n ) l0 l1 l2 h) (b1 (fR h l0 5 9) fun x5 => b1 (fAI h x5 100 (l1 - (Int32.ofInt 1))) fun x6 => b2 (fM_isLess N l0 l2 x6 h) fun x7 h8 => cond (z_cmp .eq x7 (Int32.ofInt 0)) (fM_cuts_42 N (fM_cuts_4 N n ) l0 l1 l2 h8) (fM_cuts_32 N (fM_cuts_4 N n ) l0 l1 l2 h8)))
theorem sfM_cuts_4 {xs : List Int32} (N : Nat)   : ∀ (n : Nat) (l0 : Nat) (l1 : Int32) (l2 : Int32) (h : zH) (r : Int32 × zH), fM_cuts_4 N n  l0 l1 l2 h = some r → zt xs (2) 159 4 [(0, .ref l0), (1, .int l1), (2, .int l2)] [] h 0 0 (zQ cI r) := by
  have hy := mfM_cuts_4
  intro n
  induction n with
  | zero =>
    intro l0 l1 l2 h r e
    rw [fM_cuts_4] at e
    cases e
  | succ n ih =>
    intro l0 l1 l2 h r e
    rw [fM_cuts_4] at e
    exact zl hy 2 (pc2 := 6) (lv2 := [(0, .ref l0), (1, .int l1), (2, .int l2)]) (st2 := [.ref l0, .int l2]) rfl <| zx_gI hy rfl e fun x1 _ e => zx_c hy rfl e (fun _ e => zl hy 1 (pc2 := 49) (lv2 := [(0, .ref l0), (1, .int l1), (2, .int l2)]) (st2 := [.ref l0]) rfl <| zx_gR hy rfl e fun x2 _ e => zl hy 2 (pc2 := 54) (lv2 := [(0, .ref l0), (1, .int l1), (2, .int l2)]) (st2 := [.ref l0, .int l1, .ref x2]) rfl <| zx_gI hy rfl e fun x3 _ e => zx_sI hy (j := .iastore) (Or.inl ⟨rfl, rfl, rfl⟩) rfl e fun h4 _ e => zl hy 1 (pc2 := 59) (lv2 := [(0, .ref l0), (1, .int l1), (2, .int l2)]) (st2 := [.int l1]) rfl <| zx_ret hy rfl rfl rfl rfl e) (fun _ e => zl hy 1 (pc2 := 13) (lv2 := [(0, .ref l0), (1, .int l1), (2, .int l2)]) (st2 := [.int l1]) rfl <| zx_c0 hy rfl e (fun _ e => zt_sub (z_fc rfl (z_fc rfl (z_fc rfl (z_fn)))) <| sfM_cuts_32 N (fM_cuts_4 N n ) ih l0 l1 l2 h _ e) (fun _ e => zl hy 3 (pc2 := 19) (lv2 := [(0, .ref l0), (1, .int l1), (2, .int l2)]) (st2 := [.ref l0, .int l2, .ref l0]) rfl <| zx_gR hy rfl e fun x5 _ e => zl hy 3 (pc2 := 25) (lv2 := [(0, .ref l0), (1, .int l1), (2, .int l2)]) (st2 := [.int (l1 - (Int32.ofInt 1)), .ref x5, .int l2, .ref l0]) rfl <| zx_aI hy (j := .iaload) (Or.inl ⟨rfl, rfl⟩) rfl e fun x6 _ e => zx_call hy (as := [.ref l0, .int l2, .int x6]) (rest := []) (ov := (fun v => some (.int v))) (fun _ => rfl) rfl rfl (Or.inl rfl) rfl rfl (Nat.le_of_ble_eq_true rfl) (Nat.le_of_ble_eq_true rfl) (fun _ e _ => z_rcvT (rfM_isLess N l0 l2 x6 h _ e)) (fun _ e => zt_deep (Nat.le_of_ble_eq_true rfl) (sfM_isLess N l0 l2 x6 h _ e)) e fun x7 h8 _ e => zx_c0 hy rfl e (fun _ e => zt_sub (z_fc rfl (z_fc rfl (z_fc rfl (z_fn)))) <| sfM_cuts_42 N (fM_cuts_4 N n ) ih l0 l1 l2 h8 _ e) (fun _ e => zt_sub (z_fc rfl (z_fc rfl (z_fc rfl (z_fn)))) <| sfM_cuts_32 N (fM_cuts_4 N n ) ih l0 l1 l2 h8 _ e)))
def fM_cuts (N : Nat) (l0 : Nat) (h : zH) : Option (Int32 × zH) := cond (fT h l0 5) (fM_cuts_4 N N  l0 (Int32.ofInt 0) (Int32.ofInt 0) h) none
theorem sfM_cuts {xs : List Int32} (N : Nat) (l0 : Nat) (h : zH) (r : Int32 × zH) (e : fM_cuts N l0 h = some r) : zt xs (2) 159 0 [(0, .ref l0)] [] h 0 0 (zQ cI r) := by
  have hy := mfM_cuts_m
  unfold fM_cuts at e
  replace e := (cond_some e).2
  exact zl hy 4 (pc2 := 4) (lv2 := [(2, .int (Int32.ofInt 0)), (1, .int (Int32.ofInt 0)), (0, .ref l0)]) (st2 := []) rfl <| zt_sub (z_fc rfl (z_fc rfl (z_fc rfl (z_fn)))) <| sfM_cuts_4 N   N l0 (Int32.ofInt 0) (Int32.ofInt 0) h _ e
theorem rfM_cuts (N : Nat) (l0 : Nat) (h : zH) (r : Int32 × zH) (e : fM_cuts N l0 h = some r) : fT h l0 5 = true := by
  unfold fM_cuts at e
  exact (cond_some e).1
/-- LyndonBenchModel.factors()I -/
theorem mfM_factors : z_me 160 zc_160 1 [] (some .int) := ⟨z_me0 rfl, rfl, rfl, rfl⟩
def fM_factors (N : Nat) (l0 : Nat) (h : zH) : Option (Int32 × zH) := cond (fT h l0 5) (b2 (fM_loads N l0 h) fun _ h2 => b2 (fM_cuts N l0 h2) fun x3 h4 => some (x3, h4)) none
theorem sfM_factors {xs : List Int32} (N : Nat) (l0 : Nat) (h : zH) (r : Int32 × zH) (e : fM_factors N l0 h = some r) : zt xs (3) 160 0 [(0, .ref l0)] [] h 0 0 (zQ cI r) := by
  have hy := mfM_factors
  unfold fM_factors at e
  replace e := (cond_some e).2
  exact zl hy 1 (pc2 := 1) (lv2 := [(0, .ref l0)]) (st2 := [.ref l0]) rfl <| zx_call hy (as := [.ref l0]) (rest := []) (ov := (fun _ => none)) (fun _ => rfl) rfl rfl (Or.inl rfl) rfl rfl (Nat.le_of_ble_eq_true rfl) (Nat.le_of_ble_eq_true rfl) (fun _ e _ => z_rcvT (rfM_loads N l0 h _ e)) (fun _ e => zt_deep (Nat.le_of_ble_eq_true rfl) (sfM_loads N l0 h _ e)) e fun _ h2 _ e => zl hy 1 (pc2 := 5) (lv2 := [(0, .ref l0)]) (st2 := [.ref l0]) rfl <| zx_call hy (as := [.ref l0]) (rest := []) (ov := (fun v => some (.int v))) (fun _ => rfl) rfl rfl (Or.inl rfl) rfl rfl (Nat.le_of_ble_eq_true rfl) (Nat.le_of_ble_eq_true rfl) (fun _ e _ => z_rcvT (rfM_cuts N l0 h2 _ e)) (fun _ e => zt_deep (Nat.le_of_ble_eq_true rfl) (sfM_cuts N l0 h2 _ e)) e fun x3 h4 _ e => zx_ret hy rfl rfl rfl rfl e
theorem rfM_factors (N : Nat) (l0 : Nat) (h : zH) (r : Int32 × zH) (e : fM_factors N l0 h = some r) : fT h l0 5 = true := by
  unfold fM_factors at e
  exact (cond_some e).1
/-- LyndonBenchModel.turned(I)I -/
theorem mfM_turned : z_me 161 zc_161 4 [] (some .int) := ⟨z_me0 rfl, rfl, rfl, rfl⟩
abbrev zC_161_2 : List zE := [(2, .iload_n 2, 1, 0, 0), (3, .aload_n 0, 1, 0, 0), (4, .getfield 66, 3, 5, 14), (7, .if_icmp .ge 42, 3, 49, 0), (10, .aload_n 0, 1, 0, 0), (11, .getfield 28, 3, 5, 8), (14, .iload_n 2, 1, 0, 0), (15, .iload_n 1, 1, 0, 0), (16, .iadd, 1, 0, 0), (17, .aload_n 0, 1, 0, 0), (18, .getfield 66, 3, 5, 14), (21, .irem, 1, 0, 0), (22, .iaload, 1, 0, 0), (23, .istore_n 3, 1, 0, 0), (24, .iload_n 3, 1, 0, 0), (25, .aload_n 0, 1, 0, 0), (26, .getfield 28, 3, 5, 8), (29, .iload_n 2, 1, 0, 0), (30, .iaload, 1, 0, 0), (31, .if_icmp .eq 12, 3, 43, 0), (34, .iload_n 3, 1, 0, 0), (35, .aload_n 0, 1, 0, 0), (36, .getfield 28, 3, 5, 8), (39, .iload_n 2, 1, 0, 0), (40, .iaload, 1, 0, 0), (41, .isub, 1, 0, 0), (42, .ireturn, 1, 0, 0), (43, .iinc 2 1, 3, 0, 0), (46, .goto (-44), 3, 2, 0), (49, .iconst 0, 1, 0, 0), (50, .ireturn, 1, 0, 0)]
theorem mfM_turned_2 : z_me 161 zC_161_2 4 [] (some .int) := ⟨z_me1 (cd := zc_161) rfl (by decide +kernel), rfl, rfl, rfl⟩
abbrev zC_161_m : List zE := [(0, .iconst 0, 1, 0, 0), (1, .istore_n 2, 1, 0, 0)]
theorem mfM_turned_m : z_me 161 zC_161_m 4 [] (some .int) := ⟨z_me1 (cd := zc_161) rfl (by decide +kernel), rfl, rfl, rfl⟩
def fM_turned_2 (N : Nat) : Nat → Nat → Int32 → Int32 → zH → Option (Int32 × zH)
  | 0, _, _, _, _ => none
  | n + 1, l0, l1, l2, h => b1 (fI h l0 5 14) fun x1 => cond (z_cmp .ge l2 x1) (some ((Int32.ofInt 0), h)) (b1 (fR h l0 5 8) fun x2 => b1 (fI h l0 5 14) fun x3 => (if x3 = Int32.ofInt 0 then none else b1 (fAI h x2 100 ((l2 + l1) - (l2 + l1) / x3 * x3)) fun x5 => b1 (fR h l0 5 8) fun x6 => b1 (fAI h x6 100 l2) fun x7 => cond (z_cmp .eq x5 x7) (fM_turned_2 N n  l0 l1 (l2 + Int32.ofInt 1) h) (b1 (fR h l0 5 8) fun x8 => b1 (fAI h x8 100 l2) fun x9 => some ((x5 - x9), h))))
theorem sfM_turned_2 {xs : List Int32} (N : Nat)   : ∀ (n : Nat) (l0 : Nat) (l1 : Int32) (l2 : Int32) (h : zH) (r : Int32 × zH), fM_turned_2 N n  l0 l1 l2 h = some r → zt xs (1) 161 2 [(0, .ref l0), (1, .int l1), (2, .int l2)] [] h 0 0 (zQ cI r) := by
  have hy := mfM_turned_2
  intro n
  induction n with
  | zero =>
    intro l0 l1 l2 h r e
    rw [fM_turned_2] at e
    cases e
  | succ n ih =>
    intro l0 l1 l2 h r e
    rw [fM_turned_2] at e
    exact zl hy 2 (pc2 := 4) (lv2 := [(0, .ref l0), (1, .int l1), (2, .int l2)]) (st2 := [.ref l0, .int l2]) rfl <| zx_gI hy rfl e fun x1 _ e => zx_c hy rfl e (fun _ e => zl hy 1 (pc2 := 50) (lv2 := [(0, .ref l0), (1, .int l1), (2, .int l2)]) (st2 := [.int (Int32.ofInt 0)]) rfl <| zx_ret hy rfl rfl rfl rfl e) (fun _ e => zl hy 1 (pc2 := 11) (lv2 := [(0, .ref l0), (1, .int l1), (2, .int l2)]) (st2 := [.ref l0]) rfl <| zx_gR hy rfl e fun x2 _ e => zl hy 4 (pc2 := 18) (lv2 := [(0, .ref l0), (1, .int l1), (2, .int l2)]) (st2 := [.ref l0, .int (l2 + l1), .ref x2]) rfl <| zx_gI hy rfl e fun x3 _ e => zx_rem hy (G := fun _ => b1 (fAI h x2 100 ((l2 + l1) - (l2 + l1) / x3 * x3)) fun x5 => b1 (fR h l0 5 8) fun x6 => b1 (fAI h x6 100 l2) fun x7 => cond (z_cmp .eq x5 x7) (fM_turned_2 N n  l0 l1 (l2 + Int32.ofInt 1) h) (b1 (fR h l0 5 8) fun x8 => b1 (fAI h x8 100 l2) fun x9 => some ((x5 - x9), h))) rfl e fun _ e => zx_aI hy (j := .iaload) (Or.inl ⟨rfl, rfl⟩) rfl e fun x5 _ e => zl hy 3 (pc2 := 26) (lv2 := [(3, .int x5), (0, .ref l0), (1, .int l1), (2, .int l2)]) (st2 := [.ref l0, .int x5]) rfl <| zx_gR hy rfl e fun x6 _ e => zl hy 1 (pc2 := 30) (lv2 := [(3, .int x5), (0, .ref l0), (1, .int l1), (2, .int l2)]) (st2 := [.int l2, .ref x6, .int x5]) rfl <| zx_aI hy (j := .iaload) (Or.inl ⟨rfl, rfl⟩) rfl e fun x7 _ e => zx_c hy rfl e (fun _ e => zl hy 2 (pc2 := 2) (lv2 := [(2, .int (l2 + Int32.ofInt 1)), (3, .int x5), (0, .ref l0), (1, .int l1)]) (st2 := []) rfl <| zt_sub (z_fc rfl (z_fc rfl (z_fc rfl (z_fn)))) <| ih l0 l1 (l2 + Int32.ofInt 1) h _ e) (fun _ e => zl hy 2 (pc2 := 36) (lv2 := [(3, .int x5), (0, .ref l0), (1, .int l1), (2, .int l2)]) (st2 := [.ref l0, .int x5]) rfl <| zx_gR hy rfl e fun x8 _ e => zl hy 1 (pc2 := 40) (lv2 := [(3, .int x5), (0, .ref l0), (1, .int l1), (2, .int l2)]) (st2 := [.int l2, .ref x8, .int x5]) rfl <| zx_aI hy (j := .iaload) (Or.inl ⟨rfl, rfl⟩) rfl e fun x9 _ e => zl hy 1 (pc2 := 42) (lv2 := [(3, .int x5), (0, .ref l0), (1, .int l1), (2, .int l2)]) (st2 := [.int (x5 - x9)]) rfl <| zx_ret hy rfl rfl rfl rfl e))
def fM_turned (N : Nat) (l0 : Nat) (l1 : Int32) (h : zH) : Option (Int32 × zH) := cond (fT h l0 5) (fM_turned_2 N N  l0 l1 (Int32.ofInt 0) h) none
theorem sfM_turned {xs : List Int32} (N : Nat) (l0 : Nat) (l1 : Int32) (h : zH) (r : Int32 × zH) (e : fM_turned N l0 l1 h = some r) : zt xs (1) 161 0 [(0, .ref l0), (1, .int l1)] [] h 0 0 (zQ cI r) := by
  have hy := mfM_turned_m
  unfold fM_turned at e
  replace e := (cond_some e).2
  exact zl hy 2 (pc2 := 2) (lv2 := [(2, .int (Int32.ofInt 0)), (0, .ref l0), (1, .int l1)]) (st2 := []) rfl <| zt_sub (z_fc rfl (z_fc rfl (z_fc rfl (z_fn)))) <| sfM_turned_2 N   N l0 l1 (Int32.ofInt 0) h _ e
theorem rfM_turned (N : Nat) (l0 : Nat) (l1 : Int32) (h : zH) (r : Int32 × zH) (e : fM_turned N l0 l1 h = some r) : fT h l0 5 = true := by
  unfold fM_turned at e
  exact (cond_some e).1
/-- LyndonBenchModel.isPrimitiveRow()Z -/
theorem mfM_isPrimitiveRow : z_me 162 zc_162 2 [] (some .boolean) := ⟨z_me0 rfl, rfl, rfl, rfl⟩
abbrev zC_162_38 : List zE := [(38, .ireturn, 1, 0, 0)]
theorem mfM_isPrimitiveRow_38 : z_me 162 zC_162_38 2 [] (some .boolean) := ⟨z_me1 (cd := zc_162) rfl (by decide +kernel), rfl, rfl, rfl⟩
abbrev zC_162_2 : List zE := [(2, .iload_n 1, 1, 0, 0), (3, .aload_n 0, 1, 0, 0), (4, .getfield 66, 3, 5, 14), (7, .if_icmp .ge 19, 3, 26, 0), (10, .aload_n 0, 1, 0, 0), (11, .iload_n 1, 1, 0, 0), (12, .invokevirtual 80, 3, 161, 1), (15, .ifCond .ne 5, 3, 20, 0), (18, .iconst 0, 1, 0, 0), (19, .ireturn, 1, 0, 0), (20, .iinc 1 1, 3, 0, 0), (23, .goto (-21), 3, 2, 0), (26, .aload_n 0, 1, 0, 0), (27, .getfield 66, 3, 5, 14), (30, .ifCond .le 7, 3, 37, 0), (33, .iconst 1, 1, 0, 0), (34, .goto 4, 3, 38, 0), (37, .iconst 0, 1, 0, 0)]
theorem mfM_isPrimitiveRow_2 : z_me 162 zC_162_2 2 [] (some .boolean) := ⟨z_me1 (cd := zc_162) rfl (by decide +kernel), rfl, rfl, rfl⟩
abbrev zC_162_m : List zE := [(0, .iconst 1, 1, 0, 0), (1, .istore_n 1, 1, 0, 0)]
theorem mfM_isPrimitiveRow_m : z_me 162 zC_162_m 2 [] (some .boolean) := ⟨z_me1 (cd := zc_162) rfl (by decide +kernel), rfl, rfl, rfl⟩
def fM_isPrimitiveRow_38 (N : Nat)  (s0 : Int32) (h : zH) : Option (Int32 × zH) := cond (decide (s0 = Int32.ofInt 0) || decide (s0 = Int32.ofInt 1)) (some (s0, h)) none
theorem sfM_isPrimitiveRow_38 {xs : List Int32} (N : Nat)   (s0 : Int32) (h : zH) (r : Int32 × zH) (e : fM_isPrimitiveRow_38 N  s0 h = some r) : zt xs (2) 162 38 [] [.int s0] h 0 0 (zQ cI r) := by
  have hy := mfM_isPrimitiveRow_38
  unfold fM_isPrimitiveRow_38 at e
  exact zx_retB hy rfl rfl e
def fM_isPrimitiveRow_2 (N : Nat) : Nat → Nat → Int32 → zH → Option (Int32 × zH)
  | 0, _, _, _ => none
  | n + 1, l0, l1, h => b1 (fI h l0 5 14) fun x1 => cond (z_cmp .ge l1 x1) (b1 (fI h l0 5 14) fun x2 => cond (z_cmp .le x2 (Int32.ofInt 0)) (fM_isPrimitiveRow_38 N  (Int32.ofInt 0) h) (fM_isPrimitiveRow_38 N  (Int32.ofInt 1) h)) (b2 (fM_turned N l0 l1 h) fun x3 h4 => cond (z_cmp .ne x3 (Int32.ofInt 0)) (fM_isPrimitiveRow_2 N n  l0 (l1 + Int32.ofInt 1) h4) (some ((Int32.ofInt 0), h4)))
theorem sfM_isPrimitiveRow_2 {xs : List Int32} (N : Nat)   : ∀ (n : Nat) (l0 : Nat) (l1 : Int32) (h : zH) (r : Int32 × zH), fM_isPrimitiveRow_2 N n  l0 l1 h = some r → zt xs (2) 162 2 [(0, .ref l0), (1, .int l1)] [] h 0 0 (zQ cI r) := by
  have hy := mfM_isPrimitiveRow_2
  intro n
  induction n with
  | zero =>
    intro l0 l1 h r e
    rw [fM_isPrimitiveRow_2] at e
    cases e
  | succ n ih =>
    intro l0 l1 h r e
    rw [fM_isPrimitiveRow_2] at e
    exact zl hy 2 (pc2 := 4) (lv2 := [(0, .ref l0), (1, .int l1)]) (st2 := [.ref l0, .int l1]) rfl <| zx_gI hy rfl e fun x1 _ e => zx_c hy rfl e (fun _ e => zl hy 1 (pc2 := 27) (lv2 := [(0, .ref l0), (1, .int l1)]) (st2 := [.ref l0]) rfl <| zx_gI hy rfl e fun x2 _ e => zx_c0 hy rfl e (fun _ e => zl hy 1 (pc2 := 38) (lv2 := [(0, .ref l0), (1, .int l1)]) (st2 := [.int (Int32.ofInt 0)]) rfl <| zt_sub (z_fn) <| sfM_isPrimitiveRow_38 N   (Int32.ofInt 0) h _ e) (fun _ e => zl hy 2 (pc2 := 38) (lv2 := [(0, .ref l0), (1, .int l1)]) (st2 := [.int (Int32.ofInt 1)]) rfl <| zt_sub (z_fn) <| sfM_isPrimitiveRow_38 N   (Int32.ofInt 1) h _ e)) (fun _ e => zl hy 2 (pc2 := 12) (lv2 := [(0, .ref l0), (1, .int l1)]) (st2 := [.int l1, .ref l0]) rfl <| zx_call hy (as := [.ref l0, .int l1]) (rest := []) (ov := (fun v => some (.int v))) (fun _ => rfl) rfl rfl (Or.inl rfl) rfl rfl (Nat.le_of_ble_eq_true rfl) (Nat.le_of_ble_eq_true rfl) (fun _ e _ => z_rcvT (rfM_turned N l0 l1 h _ e)) (fun _ e => zt_deep (Nat.le_of_ble_eq_true rfl) (sfM_turned N l0 l1 h _ e)) e fun x3 h4 _ e => zx_c0 hy rfl e (fun _ e => zl hy 2 (pc2 := 2) (lv2 := [(1, .int (l1 + Int32.ofInt 1)), (0, .ref l0)]) (st2 := []) rfl <| zt_sub (z_fc rfl (z_fc rfl (z_fn))) <| ih l0 (l1 + Int32.ofInt 1) h4 _ e) (fun _ e => zl hy 1 (pc2 := 19) (lv2 := [(0, .ref l0), (1, .int l1)]) (st2 := [.int (Int32.ofInt 0)]) rfl <| zx_ret hy (v := .int (Int32.ofInt 0)) rfl rfl (by decide) rfl e))
def fM_isPrimitiveRow (N : Nat) (l0 : Nat) (h : zH) : Option (Int32 × zH) := cond (fT h l0 5) (fM_isPrimitiveRow_2 N N  l0 (Int32.ofInt 1) h) none
theorem sfM_isPrimitiveRow {xs : List Int32} (N : Nat) (l0 : Nat) (h : zH) (r : Int32 × zH) (e : fM_isPrimitiveRow N l0 h = some r) : zt xs (2) 162 0 [(0, .ref l0)] [] h 0 0 (zQ cI r) := by
  have hy := mfM_isPrimitiveRow_m
  unfold fM_isPrimitiveRow at e
  replace e := (cond_some e).2
  exact zl hy 2 (pc2 := 2) (lv2 := [(1, .int (Int32.ofInt 1)), (0, .ref l0)]) (st2 := []) rfl <| zt_sub (z_fc rfl (z_fc rfl (z_fn))) <| sfM_isPrimitiveRow_2 N   N l0 (Int32.ofInt 1) h _ e
theorem rfM_isPrimitiveRow (N : Nat) (l0 : Nat) (h : zH) (r : Int32 × zH) (e : fM_isPrimitiveRow N l0 h = some r) : fT h l0 5 = true := by
  unfold fM_isPrimitiveRow at e
  exact (cond_some e).1
/-- LyndonBenchModel.isLeastRow()Z -/
theorem mfM_isLeastRow : z_me 163 zc_163 2 [] (some .boolean) := ⟨z_me0 rfl, rfl, rfl, rfl⟩
abbrev zC_163_38 : List zE := [(38, .ireturn, 1, 0, 0)]
theorem mfM_isLeastRow_38 : z_me 163 zC_163_38 2 [] (some .boolean) := ⟨z_me1 (cd := zc_163) rfl (by decide +kernel), rfl, rfl, rfl⟩
abbrev zC_163_2 : List zE := [(2, .iload_n 1, 1, 0, 0), (3, .aload_n 0, 1, 0, 0), (4, .getfield 66, 3, 5, 14), (7, .if_icmp .ge 19, 3, 26, 0), (10, .aload_n 0, 1, 0, 0), (11, .iload_n 1, 1, 0, 0), (12, .invokevirtual 80, 3, 161, 1), (15, .ifCond .ge 5, 3, 20, 0), (18, .iconst 0, 1, 0, 0), (19, .ireturn, 1, 0, 0), (20, .iinc 1 1, 3, 0, 0), (23, .goto (-21), 3, 2, 0), (26, .aload_n 0, 1, 0, 0), (27, .getfield 66, 3, 5, 14), (30, .ifCond .le 7, 3, 37, 0), (33, .iconst 1, 1, 0, 0), (34, .goto 4, 3, 38, 0), (37, .iconst 0, 1, 0, 0)]
theorem mfM_isLeastRow_2 : z_me 163 zC_163_2 2 [] (some .boolean) := ⟨z_me1 (cd := zc_163) rfl (by decide +kernel), rfl, rfl, rfl⟩
abbrev zC_163_m : List zE := [(0, .iconst 1, 1, 0, 0), (1, .istore_n 1, 1, 0, 0)]
theorem mfM_isLeastRow_m : z_me 163 zC_163_m 2 [] (some .boolean) := ⟨z_me1 (cd := zc_163) rfl (by decide +kernel), rfl, rfl, rfl⟩
def fM_isLeastRow_38 (N : Nat)  (s0 : Int32) (h : zH) : Option (Int32 × zH) := cond (decide (s0 = Int32.ofInt 0) || decide (s0 = Int32.ofInt 1)) (some (s0, h)) none
theorem sfM_isLeastRow_38 {xs : List Int32} (N : Nat)   (s0 : Int32) (h : zH) (r : Int32 × zH) (e : fM_isLeastRow_38 N  s0 h = some r) : zt xs (2) 163 38 [] [.int s0] h 0 0 (zQ cI r) := by
  have hy := mfM_isLeastRow_38
  unfold fM_isLeastRow_38 at e
  exact zx_retB hy rfl rfl e
def fM_isLeastRow_2 (N : Nat) : Nat → Nat → Int32 → zH → Option (Int32 × zH)
  | 0, _, _, _ => none
  | n + 1, l0, l1, h => b1 (fI h l0 5 14) fun x1 => cond (z_cmp .ge l1 x1) (b1 (fI h l0 5 14) fun x2 => cond (z_cmp .le x2 (Int32.ofInt 0)) (fM_isLeastRow_38 N  (Int32.ofInt 0) h) (fM_isLeastRow_38 N  (Int32.ofInt 1) h)) (b2 (fM_turned N l0 l1 h) fun x3 h4 => cond (z_cmp .ge x3 (Int32.ofInt 0)) (fM_isLeastRow_2 N n  l0 (l1 + Int32.ofInt 1) h4) (some ((Int32.ofInt 0), h4)))
theorem sfM_isLeastRow_2 {xs : List Int32} (N : Nat)   : ∀ (n : Nat) (l0 : Nat) (l1 : Int32) (h : zH) (r : Int32 × zH), fM_isLeastRow_2 N n  l0 l1 h = some r → zt xs (2) 163 2 [(0, .ref l0), (1, .int l1)] [] h 0 0 (zQ cI r) := by
  have hy := mfM_isLeastRow_2
  intro n
  induction n with
  | zero =>
    intro l0 l1 h r e
    rw [fM_isLeastRow_2] at e
    cases e
  | succ n ih =>
    intro l0 l1 h r e
    rw [fM_isLeastRow_2] at e
    exact zl hy 2 (pc2 := 4) (lv2 := [(0, .ref l0), (1, .int l1)]) (st2 := [.ref l0, .int l1]) rfl <| zx_gI hy rfl e fun x1 _ e => zx_c hy rfl e (fun _ e => zl hy 1 (pc2 := 27) (lv2 := [(0, .ref l0), (1, .int l1)]) (st2 := [.ref l0]) rfl <| zx_gI hy rfl e fun x2 _ e => zx_c0 hy rfl e (fun _ e => zl hy 1 (pc2 := 38) (lv2 := [(0, .ref l0), (1, .int l1)]) (st2 := [.int (Int32.ofInt 0)]) rfl <| zt_sub (z_fn) <| sfM_isLeastRow_38 N   (Int32.ofInt 0) h _ e) (fun _ e => zl hy 2 (pc2 := 38) (lv2 := [(0, .ref l0), (1, .int l1)]) (st2 := [.int (Int32.ofInt 1)]) rfl <| zt_sub (z_fn) <| sfM_isLeastRow_38 N   (Int32.ofInt 1) h _ e)) (fun _ e => zl hy 2 (pc2 := 12) (lv2 := [(0, .ref l0), (1, .int l1)]) (st2 := [.int l1, .ref l0]) rfl <| zx_call hy (as := [.ref l0, .int l1]) (rest := []) (ov := (fun v => some (.int v))) (fun _ => rfl) rfl rfl (Or.inl rfl) rfl rfl (Nat.le_of_ble_eq_true rfl) (Nat.le_of_ble_eq_true rfl) (fun _ e _ => z_rcvT (rfM_turned N l0 l1 h _ e)) (fun _ e => zt_deep (Nat.le_of_ble_eq_true rfl) (sfM_turned N l0 l1 h _ e)) e fun x3 h4 _ e => zx_c0 hy rfl e (fun _ e => zl hy 2 (pc2 := 2) (lv2 := [(1, .int (l1 + Int32.ofInt 1)), (0, .ref l0)]) (st2 := []) rfl <| zt_sub (z_fc rfl (z_fc rfl (z_fn))) <| ih l0 (l1 + Int32.ofInt 1) h4 _ e) (fun _ e => zl hy 1 (pc2 := 19) (lv2 := [(0, .ref l0), (1, .int l1)]) (st2 := [.int (Int32.ofInt 0)]) rfl <| zx_ret hy (v := .int (Int32.ofInt 0)) rfl rfl (by decide) rfl e))
def fM_isLeastRow (N : Nat) (l0 : Nat) (h : zH) : Option (Int32 × zH) := cond (fT h l0 5) (fM_isLeastRow_2 N N  l0 (Int32.ofInt 1) h) none
theorem sfM_isLeastRow {xs : List Int32} (N : Nat) (l0 : Nat) (h : zH) (r : Int32 × zH) (e : fM_isLeastRow N l0 h = some r) : zt xs (2) 163 0 [(0, .ref l0)] [] h 0 0 (zQ cI r) := by
  have hy := mfM_isLeastRow_m
  unfold fM_isLeastRow at e
  replace e := (cond_some e).2
  exact zl hy 2 (pc2 := 2) (lv2 := [(1, .int (Int32.ofInt 1)), (0, .ref l0)]) (st2 := []) rfl <| zt_sub (z_fc rfl (z_fc rfl (z_fn))) <| sfM_isLeastRow_2 N   N l0 (Int32.ofInt 1) h _ e
theorem rfM_isLeastRow (N : Nat) (l0 : Nat) (h : zH) (r : Int32 × zH) (e : fM_isLeastRow N l0 h = some r) : fT h l0 5 = true := by
  unfold fM_isLeastRow at e
  exact (cond_some e).1
/-- LyndonBenchModel.isBeginning()Z -/
theorem mfM_isBeginning : z_me 164 zc_164 3 [] (some .boolean) := ⟨z_me0 rfl, rfl, rfl, rfl⟩
abbrev zC_164_92 : List zE := [(92, .ireturn, 1, 0, 0)]
theorem mfM_isBeginning_92 : z_me 164 zC_164_92 3 [] (some .boolean) := ⟨z_me1 (cd := zc_164) rfl (by decide +kernel), rfl, rfl, rfl⟩
abbrev zC_164_74 : List zE := [(74, .iinc 1 1, 3, 0, 0), (77, .goto (-75), 3, 2, 0)]
theorem mfM_isBeginning_74 : z_me 164 zC_164_74 3 [] (some .boolean) := ⟨z_me1 (cd := zc_164) rfl (by decide +kernel), rfl, rfl, rfl⟩
abbrev zC_164_45 : List zE := [(45, .iload_n 1, 1, 0, 0), (46, .iload_n 2, 1, 0, 0), (47, .iadd, 1, 0, 0), (48, .aload_n 0, 1, 0, 0), (49, .getfield 66, 3, 5, 14), (52, .if_icmp .ge 22, 3, 74, 0), (55, .aload_n 0, 1, 0, 0), (56, .getfield 28, 3, 5, 8), (59, .iload_n 1, 1, 0, 0), (60, .iload_n 2, 1, 0, 0), (61, .iadd, 1, 0, 0), (62, .iaload, 1, 0, 0), (63, .aload_n 0, 1, 0, 0), (64, .getfield 28, 3, 5, 8), (67, .iload_n 2, 1, 0, 0), (68, .iaload, 1, 0, 0), (69, .if_icmp .ge 5, 3, 74, 0), (72, .iconst 0, 1, 0, 0), (73, .ireturn, 1, 0, 0)]
theorem mfM_isBeginning_45 : z_me 164 zC_164_45 3 [] (some .boolean) := ⟨z_me1 (cd := zc_164) rfl (by decide +kernel), rfl, rfl, rfl⟩
abbrev zC_164_12 : List zE := [(12, .iload_n 1, 1, 0, 0), (13, .iload_n 2, 1, 0, 0), (14, .iadd, 1, 0, 0), (15, .aload_n 0, 1, 0, 0), (16, .getfield 66, 3, 5, 14), (19, .if_icmp .ge 26, 3, 45, 0), (22, .aload_n 0, 1, 0, 0), (23, .getfield 28, 3, 5, 8), (26, .iload_n 1, 1, 0, 0), (27, .iload_n 2, 1, 0, 0), (28, .iadd, 1, 0, 0), (29, .iaload, 1, 0, 0), (30, .aload_n 0, 1, 0, 0), (31, .getfield 28, 3, 5, 8), (34, .iload_n 2, 1, 0, 0), (35, .iaload, 1, 0, 0), (36, .if_icmp .ne 9, 3, 45, 0), (39, .iinc 2 1, 3, 0, 0), (42, .goto (-30), 3, 12, 0)]
theorem mfM_isBeginning_12 : z_me 164 zC_164_12 3 [] (some .boolean) := ⟨z_me1 (cd := zc_164) rfl (by decide +kernel), rfl, rfl, rfl⟩
abbrev zC_164_2 : List zE := [(2, .iload_n 1, 1, 0, 0), (3, .aload_n 0, 1, 0, 0), (4, .getfield 66, 3, 5, 14), (7, .if_icmp .ge 73, 3, 80, 0), (10, .iconst 0, 1, 0, 0), (11, .istore_n 2, 1, 0, 0), (80, .aload_n 0, 1, 0, 0), (81, .getfield 66, 3, 5, 14), (84, .ifCond .le 7, 3, 91, 0), (87, .iconst 1, 1, 0, 0), (88, .goto 4, 3, 92, 0), (91, .iconst 0, 1, 0, 0)]
theorem mfM_isBeginning_2 : z_me 164 zC_164_2 3 [] (some .boolean) := ⟨z_me1 (cd := zc_164) rfl (by decide +kernel), rfl, rfl, rfl⟩
abbrev zC_164_m : List zE := [(0, .iconst 1, 1, 0, 0), (1, .istore_n 1, 1, 0, 0)]
theorem mfM_isBeginning_m : z_me 164 zC_164_m 3 [] (some .boolean) := ⟨z_me1 (cd := zc_164) rfl (by decide +kernel), rfl, rfl, rfl⟩
def fM_isBeginning_92 (N : Nat)  (s0 : Int32) (h : zH) : Option (Int32 × zH) := cond (decide (s0 = Int32.ofInt 0) || decide (s0 = Int32.ofInt 1)) (some (s0, h)) none
theorem sfM_isBeginning_92 {xs : List Int32} (N : Nat)   (s0 : Int32) (h : zH) (r : Int32 × zH) (e : fM_isBeginning_92 N  s0 h = some r) : zt xs (1) 164 92 [] [.int s0] h 0 0 (zQ cI r) := by
  have hy := mfM_isBeginning_92
  unfold fM_isBeginning_92 at e
  exact zx_retB hy rfl rfl e
def fM_isBeginning_74 (N : Nat) (k2 : Nat → Int32 → zH → Option (Int32 × zH)) (l0 : Nat) (l1 : Int32) (h : zH) : Option (Int32 × zH) := k2 l0 (l1 + Int32.ofInt 1) h
theorem sfM_isBeginning_74 {xs : List Int32} (N : Nat) (k2 : Nat → Int32 → zH → Option (Int32 × zH))  (hk2 : ∀ (l0 : Nat) (l1 : Int32) (h : zH) (r : Int32 × zH), k2 l0 l1 h = some r → zt xs (1) 164 2 [(0, .ref l0), (1, .int l1)] [] h 0 0 (zQ cI r)) (l0 : Nat) (l1 : Int32) (h : zH) (r : Int32 × zH) (e : fM_isBeginning_74 N k2 l0 l1 h = some r) : zt xs (1) 164 74 [(0, .ref l0), (1, .int l1)] [] h 0 0 (zQ cI r) := by
  have hy := mfM_isBeginning_74
  unfold fM_isBeginning_74 at e
  exact zl hy 2 (pc2 := 2) (lv2 := [(1, .int (l1 + Int32.ofInt 1)), (0, .ref l0)]) (st2 := []) rfl <| zt_sub (z_fc rfl (z_fc rfl (z_fn))) <| hk2 l0 (l1 + Int32.ofInt 1) h _ e
def fM_isBeginning_45 (N : Nat) (k2 : Nat → Int32 → zH → Option (Int32 × zH)) (l0 : Nat) (l1 : Int32) (l2 : Int32) (h : zH) : Option (Int32 × zH) := b1 (fI h l0 5 14) fun x4 => cond (z_cmp .ge (l1 + l2) x4) (fM_isBeginning_74 N k2 l0 l1 h) (b1 (fR h l0 5 8) fun x5 => b1 (fAI h x5 100 (l1 + l2)) fun x6 => b1 (fR h l0 5 8) fun x7 => b1 (fAI h x7 100 l2) fun x8 => cond (z_cmp .ge x6 x8) (fM_isBeginning_74 N k2 l0 l1 h) (some ((Int32.ofInt 0), h)))
theorem sfM_isBeginning_45 {xs : List Int32} (N : Nat) (k2 : Nat → Int32 → zH → Option (Int32 × zH))  (hk2 : ∀ (l0 : Nat) (l1 : Int32) (h : zH) (r : Int32 × zH), k2 l0 l1 h = some r → zt xs (1) 164 2 [(0, .ref l0), (1, .int l1)] [] h 0 0 (zQ cI r)) (l0 : Nat) (l1 : Int32) (l2 : Int32) (h : zH) (r : Int32 × zH) (e : fM_isBeginning_45 N k2 l0 l1 l2 h = some r) : zt xs (1) 164 45 [(0, .ref l0), (1, .int l1), (2, .int l2)] [] h 0 0 (zQ cI r) := by
  have hy := mfM_isBeginning_45
  unfold fM_isBeginning_45 at e
  exact zl hy 4 (pc2 := 49) (lv2 := [(0, .ref l0), (1, .int l1), (2, .int l2)]) (st2 := [.ref l0, .int (l1 + l2)]) rfl <| zx_gI hy rfl e fun x4 _ e => zx_c hy rfl e (fun _ e => zt_sub (z_fc rfl (z_fc rfl (z_fn))) <| sfM_isBeginning_74 N k2 hk2 l0 l1 h _ e) (fun _ e => zl hy 1 (pc2 := 56) (lv2 := [(0, .ref l0), (1, .int l1), (2, .int l2)]) (st2 := [.ref l0]) rfl <| zx_gR hy rfl e fun x5 _ e => zl hy 3 (pc2 := 62) (lv2 := [(0, .ref l0), (1, .int l1), (2, .int l2)]) (st2 := [.int (l1 + l2), .ref x5]) rfl <| zx_aI hy (j := .iaload) (Or.inl ⟨rfl, rfl⟩) rfl e fun x6 _ e => zl hy 1 (pc2 := 64) (lv2 := [(0, .ref l0), (1, .int l1), (2, .int l2)]) (st2 := [.ref l0, .int x6]) rfl <| zx_gR hy rfl e fun x7 _ e => zl hy 1 (pc2 := 68) (lv2 := [(0, .ref l0), (1, .int l1), (2, .int l2)]) (st2 := [.int l2, .ref x7, .int x6]) rfl <| zx_aI hy (j := .iaload) (Or.inl ⟨rfl, rfl⟩) rfl e fun x8 _ e => zx_c hy rfl e (fun _ e => zt_sub (z_fc rfl (z_fc rfl (z_fn))) <| sfM_isBeginning_74 N k2 hk2 l0 l1 h _ e) (fun _ e => zl hy 1 (pc2 := 73) (lv2 := [(0, .ref l0), (1, .int l1), (2, .int l2)]) (st2 := [.int (Int32.ofInt 0)]) rfl <| zx_ret hy (v := .int (Int32.ofInt 0)) rfl rfl (by decide) rfl e))
def fM_isBeginning_12 (N : Nat) : Nat → (Nat → Int32 → zH → Option (Int32 × zH)) → Nat → Int32 → Int32 → zH → Option (Int32 × zH)
  | 0, _, _, _, _, _ => none
  | n + 1, k2, l0, l1, l2, h => b1 (fI h l0 5 14) fun x3 => cond (z_cmp .ge (l1 + l2) x3) (fM_isBeginning_45 N k2 l0 l1 l2 h) (b1 (fR h l0 5 8) fun x4 => b1 (fAI h x4 100 (l1 + l2)) fun x5 => b1 (fR h l0 5 8) fun x6 => b1 (fAI h x6 100 l2) fun x7 => cond (z_cmp .ne x5 x7) (fM_isBeginning_45 N k2 l0 l1 l2 h) (fM_isBeginning_12 N n k2 l0 l1 (l2 + Int32.ofInt 1) h))
theorem sfM_isBeginning_12 {xs : List Int32} (N : Nat) (k2 : Nat → Int32 → zH → Option (Int32 × zH))  (hk2 : ∀ (l0 : Nat) (l1 : Int32) (h : zH) (r : Int32 × zH), k2 l0 l1 h = some r → zt xs (1) 164 2 [(0, .ref l0), (1, .int l1)] [] h 0 0 (zQ cI r)) : ∀ (n : Nat) (l0 : Nat) (l1 : Int32) (l2 : Int32) (h : zH) (r : Int32 × zH), fM_isBeginning_12 N n k2 l0 l1 l2 h = some r → zt xs (1) 164 12 [(0, .ref l0), (1, .int l1), (2, .int l2)] [] h 0 0 (zQ cI r) := by
  have hy := mfM_isBeginning_12
  intro n
  induction n with
  | zero =>
    intro l0 l1 l2 h r e
    rw [fM_isBeginning_12] at e
    cases e
  | succ n ih =>
    intro l0 l1 l2 h r e
    rw [fM_isBeginning_12] at e
    exact zl hy 4 (pc2 := 16) (lv2 := [(0, .ref l0), (1, .int l1), (2, .int l2)]) (st2 := [.ref l0, .int (l1 + l2)]) rfl <| zx_gI hy rfl e fun x3 _ e => zx_c hy rfl e (fun _ e => zt_sub (z_fc rfl (z_fc rfl (z_fc rfl (z_fn)))) <| sfM_isBeginning_45 N k2 hk2 l0 l1 l2 h _ e) (fun _ e => zl hy 1 (pc2 := 23) (lv2 := [(0, .ref l0), (1, .int l1), (2, .int l2)]) (st2 := [.ref l0]) rfl <| zx_gR hy rfl e fun x4 _ e => zl hy 3 (pc2 := 29) (lv2 := [(0, .ref l0), (1, .int l1), (2, .int l2)]) (st2 := [.int (l1 + l2), .ref x4]) rfl <| zx_aI hy (j := .iaload) (Or.inl ⟨rfl, rfl⟩) rfl e fun x5 _ e => zl hy 1 (pc2 := 31) (lv2 := [(0, .ref l0), (1, .int l1), (2, .int l2)]) (st2 := [.ref l0, .int x5]) rfl <| zx_gR hy rfl e fun x6 _ e => zl hy 1 (pc2 := 35) (lv2 := [(0, .ref l0), (1, .int l1), (2, .int l2)]) (st2 := [.int l2, .ref x6, .int x5]) rfl <| zx_aI hy (j := .iaload) (Or.inl ⟨rfl, rfl⟩) rfl e fun x7 _ e => zx_c hy rfl e (fun _ e => zt_sub (z_fc rfl (z_fc rfl (z_fc rfl (z_fn)))) <| sfM_isBeginning_45 N k2 hk2 l0 l1 l2 h _ e) (fun _ e => zl hy 2 (pc2 := 12) (lv2 := [(2, .int (l2 + Int32.ofInt 1)), (0, .ref l0), (1, .int l1)]) (st2 := []) rfl <| zt_sub (z_fc rfl (z_fc rfl (z_fc rfl (z_fn)))) <| ih l0 l1 (l2 + Int32.ofInt 1) h _ e))
def fM_isBeginning_2 (N : Nat) : Nat → Nat → Int32 → zH → Option (Int32 × zH)
  | 0, _, _, _ => none
  | n + 1, l0, l1, h => b1 (fI h l0 5 14) fun x1 => cond (z_cmp .ge l1 x1) (b1 (fI h l0 5 14) fun x2 => cond (z_cmp .le x2 (Int32.ofInt 0)) (fM_isBeginning_92 N  (Int32.ofInt 0) h) (fM_isBeginning_92 N  (Int32.ofInt 1) h)) (fM_isBeginning_12 N N (fM_isBeginning_2 N n ) l0 l1 (Int32.ofInt 0) h)
theorem sfM_isBeginning_2 {xs : List Int32} (N : Nat)   : ∀ (n : Nat) (l0 : Nat) (l1 : Int32) (h : zH) (r : Int32 × zH), fM_isBeginning_2 N n  l0 l1 h = some r → zt xs (1) 164 2 [(0, .ref l0), (1, .int l1)] [] h 0 0 (zQ cI r) := by
  have hy := mfM_isBeginning_2
  intro n
  induction n with
  | zero =>
    intro l0 l1 h r e
    rw [fM_isBeginning_2] at e
    cases e
  | succ n ih =>
    intro l0 l1 h r e
    rw [fM_isBeginning_2] at e
    exact zl hy 2 (pc2 := 4) (lv2 := [(0, .ref l0), (1, .int l1)]) (st2 := [.ref l0, .int l1]) rfl <| zx_gI hy rfl e fun x1 _ e => zx_c hy rfl e (fun _ e => zl hy 1 (pc2 := 81) (lv2 := [(0, .ref l0), (1, .int l1)]) (st2 := [.ref l0]) rfl <| zx_gI hy rfl e fun x2 _ e => zx_c0 hy rfl e (fun _ e => zl hy 1 (pc2 := 92) (lv2 := [(0, .ref l0), (1, .int l1)]) (st2 := [.int (Int32.ofInt 0)]) rfl <| zt_sub (z_fn) <| sfM_isBeginning_92 N   (Int32.ofInt 0) h _ e) (fun _ e => zl hy 2 (pc2 := 92) (lv2 := [(0, .ref l0), (1, .int l1)]) (st2 := [.int (Int32.ofInt 1)]) rfl <| zt_sub (z_fn) <| sfM_isBeginning_92 N   (Int32.ofInt 1) h _ e)) (fun _ e => zl hy 2 (pc2 := 12) (lv2 := [(2, .int (Int32.ofInt 0)), (0, .ref l0), (1, .int l1)]) (st2 := []) rfl <| zt_sub (z_fc rfl (z_fc rfl (z_fc rfl (z_fn)))) <| sfM_isBeginning_12 N (fM_isBeginning_2 N n ) ih N l0 l1 (Int32.ofInt 0) h _ e)
def fM_isBeginning (N : Nat) (l0 : Nat) (h : zH) : Option (Int32 × zH) := cond (fT h l0 5) (fM_isBeginning_2 N N  l0 (Int32.ofInt 1) h) none
theorem sfM_isBeginning {xs : List Int32} (N : Nat) (l0 : Nat) (h : zH) (r : Int32 × zH) (e : fM_isBeginning N l0 h = some r) : zt xs (1) 164 0 [(0, .ref l0)] [] h 0 0 (zQ cI r) := by
  have hy := mfM_isBeginning_m
  unfold fM_isBeginning at e
  replace e := (cond_some e).2
  exact zl hy 2 (pc2 := 2) (lv2 := [(1, .int (Int32.ofInt 1)), (0, .ref l0)]) (st2 := []) rfl <| zt_sub (z_fc rfl (z_fc rfl (z_fn))) <| sfM_isBeginning_2 N   N l0 (Int32.ofInt 1) h _ e
theorem rfM_isBeginning (N : Nat) (l0 : Nat) (h : zH) (r : Int32 × zH) (e : fM_isBeginning N l0 h = some r) : fT h l0 5 = true := by
  unfold fM_isBeginning at e
  exact (cond_some e).1
/-- LyndonBenchModel.why()I -/
theorem mfM_why : z_me 165 zc_165 1 [] (some .int) := ⟨z_me0 rfl, rfl, rfl, rfl⟩
def fM_why_34 (N : Nat)  (s0 : Int32) (h : zH) : Option (Int32 × zH) := some (s0, h)
theorem sfM_why_34 {xs : List Int32} (N : Nat)   (s0 : Int32) (h : zH) (r : Int32 × zH) (e : fM_why_34 N  s0 h = some r) : zt xs (3) 165 34 [] [.int s0] h 0 0 (zQ cI r) := by
  have hy := mfM_why
  unfold fM_why_34 at e
  exact zx_ret hy rfl rfl rfl rfl e
def fM_why (N : Nat) (l0 : Nat) (h : zH) : Option (Int32 × zH) := cond (fT h l0 5) (b2 (fM_loads N l0 h) fun _ h2 => b1 (fI h2 l0 5 14) fun x3 => cond (z_cmp .ne x3 (Int32.ofInt 0)) (b2 (fM_isPrimitiveRow N l0 h2) fun x4 h5 => cond (z_cmp .ne x4 (Int32.ofInt 0)) (b2 (fM_isLeastRow N l0 h5) fun x6 h7 => cond (z_cmp .eq x6 (Int32.ofInt 0)) (fM_why_34 N  (Int32.ofInt 3) h7) (fM_why_34 N  (Int32.ofInt 0) h7)) (some ((Int32.ofInt 2), h5))) (some ((Int32.ofInt 1), h2))) none
theorem sfM_why {xs : List Int32} (N : Nat) (l0 : Nat) (h : zH) (r : Int32 × zH) (e : fM_why N l0 h = some r) : zt xs (3) 165 0 [(0, .ref l0)] [] h 0 0 (zQ cI r) := by
  have hy := mfM_why
  unfold fM_why at e
  replace e := (cond_some e).2
  exact zl hy 1 (pc2 := 1) (lv2 := [(0, .ref l0)]) (st2 := [.ref l0]) rfl <| zx_call hy (as := [.ref l0]) (rest := []) (ov := (fun _ => none)) (fun _ => rfl) rfl rfl (Or.inl rfl) rfl rfl (Nat.le_of_ble_eq_true rfl) (Nat.le_of_ble_eq_true rfl) (fun _ e _ => z_rcvT (rfM_loads N l0 h _ e)) (fun _ e => zt_deep (Nat.le_of_ble_eq_true rfl) (sfM_loads N l0 h _ e)) e fun _ h2 _ e => zl hy 1 (pc2 := 5) (lv2 := [(0, .ref l0)]) (st2 := [.ref l0]) rfl <| zx_gI hy rfl e fun x3 _ e => zx_c0 hy rfl e (fun _ e => zl hy 1 (pc2 := 14) (lv2 := [(0, .ref l0)]) (st2 := [.ref l0]) rfl <| zx_call hy (as := [.ref l0]) (rest := []) (ov := (fun v => some (.int v))) (fun _ => rfl) rfl rfl (Or.inl rfl) rfl rfl (Nat.le_of_ble_eq_true rfl) (Nat.le_of_ble_eq_true rfl) (fun _ e _ => z_rcvT (rfM_isPrimitiveRow N l0 h2 _ e)) (fun _ e => zt_deep (Nat.le_of_ble_eq_true rfl) (sfM_isPrimitiveRow N l0 h2 _ e)) e fun x4 h5 _ e => zx_c0 hy rfl e (fun _ e => zl hy 1 (pc2 := 23) (lv2 := [(0, .ref l0)]) (st2 := [.ref l0]) rfl <| zx_call hy (as := [.ref l0]) (rest := []) (ov := (fun v => some (.int v))) (fun _ => rfl) rfl rfl (Or.inl rfl) rfl rfl (Nat.le_of_ble_eq_true rfl) (Nat.le_of_ble_eq_true rfl) (fun _ e _ => z_rcvT (rfM_isLeastRow N l0 h5 _ e)) (fun _ e => zt_deep (Nat.le_of_ble_eq_true rfl) (sfM_isLeastRow N l0 h5 _ e)) e fun x6 h7 _ e => zx_c0 hy rfl e (fun _ e => zl hy 1 (pc2 := 34) (lv2 := [(0, .ref l0)]) (st2 := [.int (Int32.ofInt 3)]) rfl <| zt_sub (z_fn) <| sfM_why_34 N   (Int32.ofInt 3) h7 _ e) (fun _ e => zl hy 2 (pc2 := 34) (lv2 := [(0, .ref l0)]) (st2 := [.int (Int32.ofInt 0)]) rfl <| zt_sub (z_fn) <| sfM_why_34 N   (Int32.ofInt 0) h7 _ e)) (fun _ e => zl hy 1 (pc2 := 21) (lv2 := [(0, .ref l0)]) (st2 := [.int (Int32.ofInt 2)]) rfl <| zx_ret hy rfl rfl rfl rfl e)) (fun _ e => zl hy 1 (pc2 := 12) (lv2 := [(0, .ref l0)]) (st2 := [.int (Int32.ofInt 1)]) rfl <| zx_ret hy rfl rfl rfl rfl e)
theorem rfM_why (N : Nat) (l0 : Nat) (h : zH) (r : Int32 × zH) (e : fM_why N l0 h = some r) : fT h l0 5 = true := by
  unfold fM_why at e
  exact (cond_some e).1
/-- LyndonBenchModel.period()I -/
theorem mfM_period : z_me 166 zc_166 3 [] (some .int) := ⟨z_me0 rfl, rfl, rfl, rfl⟩
abbrev zC_166_53 : List zE := [(53, .iload_n 2, 1, 0, 0), (54, .iload_n 1, 1, 0, 0), (55, .iadd, 1, 0, 0), (56, .aload_n 0, 1, 0, 0), (57, .getfield 7, 3, 5, 0), (60, .iconst 1, 1, 0, 0), (61, .iaload, 1, 0, 0), (62, .if_icmp .ne 5, 3, 67, 0), (65, .iload_n 1, 1, 0, 0), (66, .ireturn, 1, 0, 0), (67, .iinc 1 1, 3, 0, 0), (70, .goto (-68), 3, 2, 0)]
theorem mfM_period_53 : z_me 166 zC_166_53 3 [] (some .int) := ⟨z_me1 (cd := zc_166) rfl (by decide +kernel), rfl, rfl, rfl⟩
abbrev zC_166_14 : List zE := [(14, .iload_n 2, 1, 0, 0), (15, .iload_n 1, 1, 0, 0), (16, .iadd, 1, 0, 0), (17, .aload_n 0, 1, 0, 0), (18, .getfield 7, 3, 5, 0), (21, .iconst 1, 1, 0, 0), (22, .iaload, 1, 0, 0), (23, .if_icmp .ge 30, 3, 53, 0), (26, .aload_n 0, 1, 0, 0), (27, .getfield 7, 3, 5, 0), (30, .iconst 3, 1, 0, 0), (31, .iload_n 2, 1, 0, 0), (32, .iadd, 1, 0, 0), (33, .iaload, 1, 0, 0), (34, .aload_n 0, 1, 0, 0), (35, .getfield 7, 3, 5, 0), (38, .iconst 3, 1, 0, 0), (39, .iload_n 2, 1, 0, 0), (40, .iadd, 1, 0, 0), (41, .iload_n 1, 1, 0, 0), (42, .iadd, 1, 0, 0), (43, .iaload, 1, 0, 0), (44, .if_icmp .ne 9, 3, 53, 0), (47, .iinc 2 1, 3, 0, 0), (50, .goto (-36), 3, 14, 0)]
theorem mfM_period_14 : z_me 166 zC_166_14 3 [] (some .int) := ⟨z_me1 (cd := zc_166) rfl (by decide +kernel), rfl, rfl, rfl⟩
abbrev zC_166_2 : List zE := [(2, .iload_n 1, 1, 0, 0), (3, .aload_n 0, 1, 0, 0), (4, .getfield 7, 3, 5, 0), (7, .iconst 1, 1, 0, 0), (8, .iaload, 1, 0, 0), (9, .if_icmp .gt 64, 3, 73, 0), (12, .iconst 0, 1, 0, 0), (13, .istore_n 2, 1, 0, 0), (73, .iconst 0, 1, 0, 0), (74, .ireturn, 1, 0, 0)]
theorem mfM_period_2 : z_me 166 zC_166_2 3 [] (some .int) := ⟨z_me1 (cd := zc_166) rfl (by decide +kernel), rfl, rfl, rfl⟩
abbrev zC_166_m : List zE := [(0, .iconst 1, 1, 0, 0), (1, .istore_n 1, 1, 0, 0)]
theorem mfM_period_m : z_me 166 zC_166_m 3 [] (some .int) := ⟨z_me1 (cd := zc_166) rfl (by decide +kernel), rfl, rfl, rfl⟩
def fM_period_53 (N : Nat) (k2 : Nat → Int32 → zH → Option (Int32 × zH)) (l0 : Nat) (l1 : Int32) (l2 : Int32) (h : zH) : Option (Int32 × zH) := b1 (fR h l0 5 0) fun x5 => b1 (fAI h x5 100 (Int32.ofInt 1)) fun x6 => cond (z_cmp .ne (l2 + l1) x6) (k2 l0 (l1 + Int32.ofInt 1) h) (some (l1, h))
theorem sfM_period_53 {xs : List Int32} (N : Nat) (k2 : Nat → Int32 → zH → Option (Int32 × zH))  (hk2 : ∀ (l0 : Nat) (l1 : Int32) (h : zH) (r : Int32 × zH), k2 l0 l1 h = some r → zt xs (1) 166 2 [(0, .ref l0), (1, .int l1)] [] h 0 0 (zQ cI r)) (l0 : Nat) (l1 : Int32) (l2 : Int32) (h : zH) (r : Int32 × zH) (e : fM_period_53 N k2 l0 l1 l2 h = some r) : zt xs (1) 166 53 [(0, .ref l0), (1, .int l1), (2, .int l2)] [] h 0 0 (zQ cI r) := by
  have hy := mfM_period_53
  unfold fM_period_53 at e
  exact zl hy 4 (pc2 := 57) (lv2 := [(0, .ref l0), (1, .int l1), (2, .int l2)]) (st2 := [.ref l0, .int (l2 + l1)]) rfl <| zx_gR hy rfl e fun x5 _ e => zl hy 1 (pc2 := 61) (lv2 := [(0, .ref l0), (1, .int l1), (2, .int l2)]) (st2 := [.int (Int32.ofInt 1), .ref x5, .int (l2 + l1)]) rfl <| zx_aI hy (j := .iaload) (Or.inl ⟨rfl, rfl⟩) rfl e fun x6 _ e => zx_c hy rfl e (fun _ e => zl hy 2 (pc2 := 2) (lv2 := [(1, .int (l1 + Int32.ofInt 1)), (0, .ref l0), (2, .int l2)]) (st2 := []) rfl <| zt_sub (z_fc rfl (z_fc rfl (z_fn))) <| hk2 l0 (l1 + Int32.ofInt 1) h _ e) (fun _ e => zl hy 1 (pc2 := 66) (lv2 := [(0, .ref l0), (1, .int l1), (2, .int l2)]) (st2 := [.int l1]) rfl <| zx_ret hy rfl rfl rfl rfl e)
def fM_period_14 (N : Nat) : Nat → (Nat → Int32 → zH → Option (Int32 × zH)) → Nat → Int32 → Int32 → zH → Option (Int32 × zH)
  | 0, _, _, _, _, _ => none
  | n + 1, k2, l0, l1, l2, h => b1 (fR h l0 5 0) fun x3 => b1 (fAI h x3 100 (Int32.ofInt 1)) fun x4 => cond (z_cmp .ge (l2 + l1) x4) (fM_period_53 N k2 l0 l1 l2 h) (b1 (fR h l0 5 0) fun x5 => b1 (fAI h x5 100 ((Int32.ofInt 3) + l2)) fun x6 => b1 (fR h l0 5 0) fun x7 => b1 (fAI h x7 100 (((Int32.ofInt 3) + l2) + l1)) fun x8 => cond (z_cmp .ne x6 x8) (fM_period_53 N k2 l0 l1 l2 h) (fM_period_14 N n k2 l0 l1 (l2 + Int32.ofInt 1) h))
theorem sfM_period_14 {xs : List Int32} (N : Nat) (k2 : Nat → Int32 → zH → Option (Int32 × zH))  (hk2 : ∀ (l0 : Nat) (l1 : Int32) (h : zH) (r : Int32 × zH), k2 l0 l1 h = some r → zt xs (1) 166 2 [(0, .ref l0), (1, .int l1)] [] h 0 0 (zQ cI r)) : ∀ (n : Nat) (l0 : Nat) (l1 : Int32) (l2 : Int32) (h : zH) (r : Int32 × zH), fM_period_14 N n k2 l0 l1 l2 h = some r → zt xs (1) 166 14 [(0, .ref l0), (1, .int l1), (2, .int l2)] [] h 0 0 (zQ cI r) := by
  have hy := mfM_period_14
  intro n
  induction n with
  | zero =>
    intro l0 l1 l2 h r e
    rw [fM_period_14] at e
    cases e
  | succ n ih =>
    intro l0 l1 l2 h r e
    rw [fM_period_14] at e
    exact zl hy 4 (pc2 := 18) (lv2 := [(0, .ref l0), (1, .int l1), (2, .int l2)]) (st2 := [.ref l0, .int (l2 + l1)]) rfl <| zx_gR hy rfl e fun x3 _ e => zl hy 1 (pc2 := 22) (lv2 := [(0, .ref l0), (1, .int l1), (2, .int l2)]) (st2 := [.int (Int32.ofInt 1), .ref x3, .int (l2 + l1)]) rfl <| zx_aI hy (j := .iaload) (Or.inl ⟨rfl, rfl⟩) rfl e fun x4 _ e => zx_c hy rfl e (fun _ e => zt_sub (z_fc rfl (z_fc rfl (z_fc rfl (z_fn)))) <| sfM_period_53 N k2 hk2 l0 l1 l2 h _ e) (fun _ e => zl hy 1 (pc2 := 27) (lv2 := [(0, .ref l0), (1, .int l1), (2, .int l2)]) (st2 := [.ref l0]) rfl <| zx_gR hy rfl e fun x5 _ e => zl hy 3 (pc2 := 33) (lv2 := [(0, .ref l0), (1, .int l1), (2, .int l2)]) (st2 := [.int ((Int32.ofInt 3) + l2), .ref x5]) rfl <| zx_aI hy (j := .iaload) (Or.inl ⟨rfl, rfl⟩) rfl e fun x6 _ e => zl hy 1 (pc2 := 35) (lv2 := [(0, .ref l0), (1, .int l1), (2, .int l2)]) (st2 := [.ref l0, .int x6]) rfl <| zx_gR hy rfl e fun x7 _ e => zl hy 5 (pc2 := 43) (lv2 := [(0, .ref l0), (1, .int l1), (2, .int l2)]) (st2 := [.int (((Int32.ofInt 3) + l2) + l1), .ref x7, .int x6]) rfl <| zx_aI hy (j := .iaload) (Or.inl ⟨rfl, rfl⟩) rfl e fun x8 _ e => zx_c hy rfl e (fun _ e => zt_sub (z_fc rfl (z_fc rfl (z_fc rfl (z_fn)))) <| sfM_period_53 N k2 hk2 l0 l1 l2 h _ e) (fun _ e => zl hy 2 (pc2 := 14) (lv2 := [(2, .int (l2 + Int32.ofInt 1)), (0, .ref l0), (1, .int l1)]) (st2 := []) rfl <| zt_sub (z_fc rfl (z_fc rfl (z_fc rfl (z_fn)))) <| ih l0 l1 (l2 + Int32.ofInt 1) h _ e))
def fM_period_2 (N : Nat) : Nat → Nat → Int32 → zH → Option (Int32 × zH)
  | 0, _, _, _ => none
  | n + 1, l0, l1, h => b1 (fR h l0 5 0) fun x1 => b1 (fAI h x1 100 (Int32.ofInt 1)) fun x2 => cond (z_cmp .gt l1 x2) (some ((Int32.ofInt 0), h)) (fM_period_14 N N (fM_period_2 N n ) l0 l1 (Int32.ofInt 0) h)
theorem sfM_period_2 {xs : List Int32} (N : Nat)   : ∀ (n : Nat) (l0 : Nat) (l1 : Int32) (h : zH) (r : Int32 × zH), fM_period_2 N n  l0 l1 h = some r → zt xs (1) 166 2 [(0, .ref l0), (1, .int l1)] [] h 0 0 (zQ cI r) := by
  have hy := mfM_period_2
  intro n
  induction n with
  | zero =>
    intro l0 l1 h r e
    rw [fM_period_2] at e
    cases e
  | succ n ih =>
    intro l0 l1 h r e
    rw [fM_period_2] at e
    exact zl hy 2 (pc2 := 4) (lv2 := [(0, .ref l0), (1, .int l1)]) (st2 := [.ref l0, .int l1]) rfl <| zx_gR hy rfl e fun x1 _ e => zl hy 1 (pc2 := 8) (lv2 := [(0, .ref l0), (1, .int l1)]) (st2 := [.int (Int32.ofInt 1), .ref x1, .int l1]) rfl <| zx_aI hy (j := .iaload) (Or.inl ⟨rfl, rfl⟩) rfl e fun x2 _ e => zx_c hy rfl e (fun _ e => zl hy 1 (pc2 := 74) (lv2 := [(0, .ref l0), (1, .int l1)]) (st2 := [.int (Int32.ofInt 0)]) rfl <| zx_ret hy rfl rfl rfl rfl e) (fun _ e => zl hy 2 (pc2 := 14) (lv2 := [(2, .int (Int32.ofInt 0)), (0, .ref l0), (1, .int l1)]) (st2 := []) rfl <| zt_sub (z_fc rfl (z_fc rfl (z_fc rfl (z_fn)))) <| sfM_period_14 N (fM_period_2 N n ) ih N l0 l1 (Int32.ofInt 0) h _ e)
def fM_period (N : Nat) (l0 : Nat) (h : zH) : Option (Int32 × zH) := cond (fT h l0 5) (fM_period_2 N N  l0 (Int32.ofInt 1) h) none
theorem sfM_period {xs : List Int32} (N : Nat) (l0 : Nat) (h : zH) (r : Int32 × zH) (e : fM_period N l0 h = some r) : zt xs (1) 166 0 [(0, .ref l0)] [] h 0 0 (zQ cI r) := by
  have hy := mfM_period_m
  unfold fM_period at e
  replace e := (cond_some e).2
  exact zl hy 2 (pc2 := 2) (lv2 := [(1, .int (Int32.ofInt 1)), (0, .ref l0)]) (st2 := []) rfl <| zt_sub (z_fc rfl (z_fc rfl (z_fn))) <| sfM_period_2 N   N l0 (Int32.ofInt 1) h _ e
theorem rfM_period (N : Nat) (l0 : Nat) (h : zH) (r : Int32 × zH) (e : fM_period N l0 h = some r) : fT h l0 5 = true := by
  unfold fM_period at e
  exact (cond_some e).1
/-- LyndonBenchModel.rotations(II)I -/
theorem mfM_rotations : z_me 167 zc_167 5 [] (some .int) := ⟨z_me0 rfl, rfl, rfl, rfl⟩
abbrev zC_167_2 : List zE := [(2, .iload_n 3, 1, 0, 0), (3, .aload_n 0, 1, 0, 0), (4, .getfield 7, 3, 5, 0), (7, .iconst 1, 1, 0, 0), (8, .iaload, 1, 0, 0), (9, .if_icmp .ge 54, 3, 63, 0), (12, .aload_n 0, 1, 0, 0), (13, .getfield 7, 3, 5, 0), (16, .iconst 3, 1, 0, 0), (17, .iload_n 3, 1, 0, 0), (18, .iload_n 1, 1, 0, 0), (19, .iadd, 1, 0, 0), (20, .aload_n 0, 1, 0, 0), (21, .getfield 7, 3, 5, 0), (24, .iconst 1, 1, 0, 0), (25, .iaload, 1, 0, 0), (26, .irem, 1, 0, 0), (27, .iadd, 1, 0, 0), (28, .iaload, 1, 0, 0), (29, .aload_n 0, 1, 0, 0), (30, .getfield 7, 3, 5, 0), (33, .iconst 3, 1, 0, 0), (34, .iload_n 3, 1, 0, 0), (35, .iload_n 2, 1, 0, 0), (36, .iadd, 1, 0, 0), (37, .aload_n 0, 1, 0, 0), (38, .getfield 7, 3, 5, 0), (41, .iconst 1, 1, 0, 0), (42, .iaload, 1, 0, 0), (43, .irem, 1, 0, 0), (44, .iadd, 1, 0, 0), (45, .iaload, 1, 0, 0), (46, .isub, 1, 0, 0), (47, .istore 4, 2, 0, 0), (49, .iload 4, 2, 0, 0), (51, .ifCond .eq 6, 3, 57, 0), (54, .iload 4, 2, 0, 0), (56, .ireturn, 1, 0, 0), (57, .iinc 3 1, 3, 0, 0), (60, .goto (-58), 3, 2, 0), (63, .iconst 0, 1, 0, 0), (64, .ireturn, 1, 0, 0)]
theorem mfM_rotations_2 : z_me 167 zC_167_2 5 [] (some .int) := ⟨z_me1 (cd := zc_167) rfl (by decide +kernel), rfl, rfl, rfl⟩
abbrev zC_167_m : List zE := [(0, .iconst 0, 1, 0, 0), (1, .istore_n 3, 1, 0, 0)]
theorem mfM_rotations_m : z_me 167 zC_167_m 5 [] (some .int) := ⟨z_me1 (cd := zc_167) rfl (by decide +kernel), rfl, rfl, rfl⟩
def fM_rotations_2 (N : Nat) : Nat → Nat → Int32 → Int32 → Int32 → zH → Option (Int32 × zH)
  | 0, _, _, _, _, _ => none
  | n + 1, l0, l1, l2, l3, h => b1 (fR h l0 5 0) fun x1 => b1 (fAI h x1 100 (Int32.ofInt 1)) fun x2 => cond (z_cmp .ge l3 x2) (some ((Int32.ofInt 0), h)) (b1 (fR h l0 5 0) fun x3 => b1 (fR h l0 5 0) fun x4 => b1 (fAI h x4 100 (Int32.ofInt 1)) fun x5 => (if x5 = Int32.ofInt 0 then none else b1 (fAI h x3 100 ((Int32.ofInt 3) + ((l3 + l1) - (l3 + l1) / x5 * x5))) fun x7 => b1 (fR h l0 5 0) fun x8 => b1 (fR h l0 5 0) fun x9 => b1 (fAI h x9 100 (Int32.ofInt 1)) fun x10 => (if x10 = Int32.ofInt 0 then none else b1 (fAI h x8 100 ((Int32.ofInt 3) + ((l3 + l2) - (l3 + l2) / x10 * x10))) fun x12 => cond (z_cmp .eq (x7 - x12) (Int32.ofInt 0)) (fM_rotations_2 N n  l0 l1 l2 (l3 + Int32.ofInt 1) h) (some ((x7 - x12), h)))))
theorem sfM_rotations_2 {xs : List Int32} (N : Nat)   : ∀ (n : Nat) (l0 : Nat) (l1 : Int32) (l2 : Int32) (l3 : Int32) (h : zH) (r : Int32 × zH), fM_rotations_2 N n  l0 l1 l2 l3 h = some r → zt xs (1) 167 2 [(0, .ref l0), (1, .int l1), (2, .int l2), (3, .int l3)] [] h 0 0 (zQ cI r) := by
  have hy := mfM_rotations_2
  intro n
  induction n with
  | zero =>
    intro l0 l1 l2 l3 h r e
    rw [fM_rotations_2] at e
    cases e
  | succ n ih =>
    intro l0 l1 l2 l3 h r e
    rw [fM_rotations_2] at e
    exact zl hy 2 (pc2 := 4) (lv2 := [(0, .ref l0), (1, .int l1), (2, .int l2), (3, .int l3)]) (st2 := [.ref l0, .int l3]) rfl <| zx_gR hy rfl e fun x1 _ e => zl hy 1 (pc2 := 8) (lv2 := [(0, .ref l0), (1, .int l1), (2, .int l2), (3, .int l3)]) (st2 := [.int (Int32.ofInt 1), .ref x1, .int l3]) rfl <| zx_aI hy (j := .iaload) (Or.inl ⟨rfl, rfl⟩) rfl e fun x2 _ e => zx_c hy rfl e (fun _ e => zl hy 1 (pc2 := 64) (lv2 := [(0, .ref l0), (1, .int l1), (2, .int l2), (3, .int l3)]) (st2 := [.int (Int32.ofInt 0)]) rfl <| zx_ret hy rfl rfl rfl rfl e) (fun _ e => zl hy 1 (pc2 := 13) (lv2 := [(0, .ref l0), (1, .int l1), (2, .int l2), (3, .int l3)]) (st2 := [.ref l0]) rfl <| zx_gR hy rfl e fun x3 _ e => zl hy 5 (pc2 := 21) (lv2 := [(0, .ref l0), (1, .int l1), (2, .int l2), (3, .int l3)]) (st2 := [.ref l0, .int (l3 + l1), .int (Int32.ofInt 3), .ref x3]) rfl <| zx_gR hy rfl e fun x4 _ e => zl hy 1 (pc2 := 25) (lv2 := [(0, .ref l0), (1, .int l1), (2, .int l2), (3, .int l3)]) (st2 := [.int (Int32.ofInt 1), .ref x4, .int (l3 + l1), .int (Int32.ofInt 3), .ref x3]) rfl <| zx_aI hy (j := .iaload) (Or.inl ⟨rfl, rfl⟩) rfl e fun x5 _ e => zx_rem hy (G := fun _ => b1 (fAI h x3 100 ((Int32.ofInt 3) + ((l3 + l1) - (l3 + l1) / x5 * x5))) fun x7 => b1 (fR h l0 5 0) fun x8 => b1 (fR h l0 5 0) fun x9 => b1 (fAI h x9 100 (Int32.ofInt 1)) fun x10 => (if x10 = Int32.ofInt 0 then none else b1 (fAI h x8 100 ((Int32.ofInt 3) + ((l3 + l2) - (l3 + l2) / x10 * x10))) fun x12 => cond (z_cmp .eq (x7 - x12) (Int32.ofInt 0)) (fM_rotations_2 N n  l0 l1 l2 (l3 + Int32.ofInt 1) h) (some ((x7 - x12), h)))) rfl e fun _ e => zl hy 1 (pc2 := 28) (lv2 := [(0, .ref l0), (1, .int l1), (2, .int l2), (3, .int l3)]) (st2 := [.int ((Int32.ofInt 3) + ((l3 + l1) - (l3 + l1) / x5 * x5)), .ref x3]) rfl <| zx_aI hy (j := .iaload) (Or.inl ⟨rfl, rfl⟩) rfl e fun x7 _ e => zl hy 1 (pc2 := 30) (lv2 := [(0, .ref l0), (1, .int l1), (2, .int l2), (3, .int l3)]) (st2 := [.ref l0, .int x7]) rfl <| zx_gR hy rfl e fun x8 _ e => zl hy 5 (pc2 := 38) (lv2 := [(0, .ref l0), (1, .int l1), (2, .int l2), (3, .int l3)]) (st2 := [.ref l0, .int (l3 + l2), .int (Int32.ofInt 3), .ref x8, .int x7]) rfl <| zx_gR hy rfl e fun x9 _ e => zl hy 1 (pc2 := 42) (lv2 := [(0, .ref l0), (1, .int l1), (2, .int l2), (3, .int l3)]) (st2 := [.int (Int32.ofInt 1), .ref x9, .int (l3 + l2), .int (Int32.ofInt 3), .ref x8, .int x7]) rfl <| zx_aI hy (j := .iaload) (Or.inl ⟨rfl, rfl⟩) rfl e fun x10 _ e => zx_rem hy (G := fun _ => b1 (fAI h x8 100 ((Int32.ofInt 3) + ((l3 + l2) - (l3 + l2) / x10 * x10))) fun x12 => cond (z_cmp .eq (x7 - x12) (Int32.ofInt 0)) (fM_rotations_2 N n  l0 l1 l2 (l3 + Int32.ofInt 1) h) (some ((x7 - x12), h))) rfl e fun _ e => zl hy 1 (pc2 := 45) (lv2 := [(0, .ref l0), (1, .int l1), (2, .int l2), (3, .int l3)]) (st2 := [.int ((Int32.ofInt 3) + ((l3 + l2) - (l3 + l2) / x10 * x10)), .ref x8, .int x7]) rfl <| zx_aI hy (j := .iaload) (Or.inl ⟨rfl, rfl⟩) rfl e fun x12 _ e => zl hy 3 (pc2 := 51) (lv2 := [(4, .int (x7 - x12)), (0, .ref l0), (1, .int l1), (2, .int l2), (3, .int l3)]) (st2 := [.int (x7 - x12)]) rfl <| zx_c0 hy rfl e (fun _ e => zl hy 2 (pc2 := 2) (lv2 := [(3, .int (l3 + Int32.ofInt 1)), (4, .int (x7 - x12)), (0, .ref l0), (1, .int l1), (2, .int l2)]) (st2 := []) rfl <| zt_sub (z_fc rfl (z_fc rfl (z_fc rfl (z_fc rfl (z_fn))))) <| ih l0 l1 l2 (l3 + Int32.ofInt 1) h _ e) (fun _ e => zl hy 1 (pc2 := 56) (lv2 := [(4, .int (x7 - x12)), (0, .ref l0), (1, .int l1), (2, .int l2), (3, .int l3)]) (st2 := [.int (x7 - x12)]) rfl <| zx_ret hy rfl rfl rfl rfl e))
def fM_rotations (N : Nat) (l0 : Nat) (l1 : Int32) (l2 : Int32) (h : zH) : Option (Int32 × zH) := cond (fT h l0 5) (fM_rotations_2 N N  l0 l1 l2 (Int32.ofInt 0) h) none
theorem sfM_rotations {xs : List Int32} (N : Nat) (l0 : Nat) (l1 : Int32) (l2 : Int32) (h : zH) (r : Int32 × zH) (e : fM_rotations N l0 l1 l2 h = some r) : zt xs (1) 167 0 [(0, .ref l0), (1, .int l1), (2, .int l2)] [] h 0 0 (zQ cI r) := by
  have hy := mfM_rotations_m
  unfold fM_rotations at e
  replace e := (cond_some e).2
  exact zl hy 2 (pc2 := 2) (lv2 := [(3, .int (Int32.ofInt 0)), (0, .ref l0), (1, .int l1), (2, .int l2)]) (st2 := []) rfl <| zt_sub (z_fc rfl (z_fc rfl (z_fc rfl (z_fc rfl (z_fn))))) <| sfM_rotations_2 N   N l0 l1 l2 (Int32.ofInt 0) h _ e
theorem rfM_rotations (N : Nat) (l0 : Nat) (l1 : Int32) (l2 : Int32) (h : zH) (r : Int32 × zH) (e : fM_rotations N l0 l1 l2 h = some r) : fT h l0 5 = true := by
  unfold fM_rotations at e
  exact (cond_some e).1
/-- LyndonBenchModel.least()I -/
theorem mfM_least : z_me 168 zc_168 3 [] (some .int) := ⟨z_me0 rfl, rfl, rfl, rfl⟩
abbrev zC_168_28 : List zE := [(28, .istore_n 1, 1, 0, 0), (29, .iinc 2 1, 3, 0, 0), (32, .goto (-28), 3, 4, 0)]
theorem mfM_least_28 : z_me 168 zC_168_28 3 [] (some .int) := ⟨z_me1 (cd := zc_168) rfl (by decide +kernel), rfl, rfl, rfl⟩
abbrev zC_168_4 : List zE := [(4, .iload_n 2, 1, 0, 0), (5, .aload_n 0, 1, 0, 0), (6, .getfield 7, 3, 5, 0), (9, .iconst 1, 1, 0, 0), (10, .iaload, 1, 0, 0), (11, .if_icmp .ge 24, 3, 35, 0), (14, .aload_n 0, 1, 0, 0), (15, .iload_n 2, 1, 0, 0), (16, .iload_n 1, 1, 0, 0), (17, .invokevirtual 90, 3, 167, 2), (20, .ifCond .ge 7, 3, 27, 0), (23, .iload_n 2, 1, 0, 0), (24, .goto 4, 3, 28, 0), (27, .iload_n 1, 1, 0, 0), (35, .iload_n 1, 1, 0, 0), (36, .ireturn, 1, 0, 0)]
theorem mfM_least_4 : z_me 168 zC_168_4 3 [] (some .int) := ⟨z_me1 (cd := zc_168) rfl (by decide +kernel), rfl, rfl, rfl⟩
abbrev zC_168_m : List zE := [(0, .iconst 0, 1, 0, 0), (1, .istore_n 1, 1, 0, 0), (2, .iconst 1, 1, 0, 0), (3, .istore_n 2, 1, 0, 0)]
theorem mfM_least_m : z_me 168 zC_168_m 3 [] (some .int) := ⟨z_me1 (cd := zc_168) rfl (by decide +kernel), rfl, rfl, rfl⟩
def fM_least_28 (N : Nat) (k4 : Nat → Int32 → Int32 → zH → Option (Int32 × zH)) (l0 : Nat) (l2 : Int32) (s0 : Int32) (h : zH) : Option (Int32 × zH) := k4 l0 s0 (l2 + Int32.ofInt 1) h
theorem sfM_least_28 {xs : List Int32} (N : Nat) (k4 : Nat → Int32 → Int32 → zH → Option (Int32 × zH))  (hk4 : ∀ (l0 : Nat) (l1 : Int32) (l2 : Int32) (h : zH) (r : Int32 × zH), k4 l0 l1 l2 h = some r → zt xs (2) 168 4 [(0, .ref l0), (1, .int l1), (2, .int l2)] [] h 0 0 (zQ cI r)) (l0 : Nat) (l2 : Int32) (s0 : Int32) (h : zH) (r : Int32 × zH) (e : fM_least_28 N k4 l0 l2 s0 h = some r) : zt xs (2) 168 28 [(0, .ref l0), (2, .int l2)] [.int s0] h 0 0 (zQ cI r) := by
  have hy := mfM_least_28
  unfold fM_least_28 at e
  exact zl hy 3 (pc2 := 4) (lv2 := [(2, .int (l2 + Int32.ofInt 1)), (1, .int s0), (0, .ref l0)]) (st2 := []) rfl <| zt_sub (z_fc rfl (z_fc rfl (z_fc rfl (z_fn)))) <| hk4 l0 s0 (l2 + Int32.ofInt 1) h _ e
def fM_least_4 (N : Nat) : Nat → Nat → Int32 → Int32 → zH → Option (Int32 × zH)
  | 0, _, _, _, _ => none
  | n + 1, l0, l1, l2, h => b1 (fR h l0 5 0) fun x1 => b1 (fAI h x1 100 (Int32.ofInt 1)) fun x2 => cond (z_cmp .ge l2 x2) (some (l1, h)) (b2 (fM_rotations N l0 l2 l1 h) fun x3 h4 => cond (z_cmp .ge x3 (Int32.ofInt 0)) (fM_least_28 N (fM_least_4 N n ) l0 l2 l1 h4) (fM_least_28 N (fM_least_4 N n ) l0 l2 l2 h4))
theorem sfM_least_4 {xs : List Int32} (N : Nat)   : ∀ (n : Nat) (l0 : Nat) (l1 : Int32) (l2 : Int32) (h : zH) (r : Int32 × zH), fM_least_4 N n  l0 l1 l2 h = some r → zt xs (2) 168 4 [(0, .ref l0), (1, .int l1), (2, .int l2)] [] h 0 0 (zQ cI r) := by
  have hy := mfM_least_4
  intro n
  induction n with
  | zero =>
    intro l0 l1 l2 h r e
    rw [fM_least_4] at e
    cases e
  | succ n ih =>
    intro l0 l1 l2 h r e
    rw [fM_least_4] at e
    exact zl hy 2 (pc2 := 6) (lv2 := [(0, .ref l0), (1, .int l1), (2, .int l2)]) (st2 := [.ref l0, .int l2]) rfl <| zx_gR hy rfl e fun x1 _ e => zl hy 1 (pc2 := 10) (lv2 := [(0, .ref l0), (1, .int l1), (2, .int l2)]) (st2 := [.int (Int32.ofInt 1), .ref x1, .int l2]) rfl <| zx_aI hy (j := .iaload) (Or.inl ⟨rfl, rfl⟩) rfl e fun x2 _ e => zx_c hy rfl e (fun _ e => zl hy 1 (pc2 := 36) (lv2 := [(0, .ref l0), (1, .int l1), (2, .int l2)]) (st2 := [.int l1]) rfl <| zx_ret hy rfl rfl rfl rfl e) (fun _ e => zl hy 3 (pc2 := 17) (lv2 := [(0, .ref l0), (1, .int l1), (2, .int l2)]) (st2 := [.int l1, .int l2, .ref l0]) rfl <| zx_call hy (as := [.ref l0, .int l2, .int l1]) (rest := []) (ov := (fun v => some (.int v))) (fun _ => rfl) rfl rfl (Or.inl rfl) rfl rfl (Nat.le_of_ble_eq_true rfl) (Nat.le_of_ble_eq_true rfl) (fun _ e _ => z_rcvT (rfM_rotations N l0 l2 l1 h _ e)) (fun _ e => zt_deep (Nat.le_of_ble_eq_true rfl) (sfM_rotations N l0 l2 l1 h _ e)) e fun x3 h4 _ e => zx_c0 hy rfl e (fun _ e => zl hy 1 (pc2 := 28) (lv2 := [(0, .ref l0), (1, .int l1), (2, .int l2)]) (st2 := [.int l1]) rfl <| zt_sub (z_fc rfl (z_fc rfl (z_fn))) <| sfM_least_28 N (fM_least_4 N n ) ih l0 l2 l1 h4 _ e) (fun _ e => zl hy 2 (pc2 := 28) (lv2 := [(0, .ref l0), (1, .int l1), (2, .int l2)]) (st2 := [.int l2]) rfl <| zt_sub (z_fc rfl (z_fc rfl (z_fn))) <| sfM_least_28 N (fM_least_4 N n ) ih l0 l2 l2 h4 _ e))
def fM_least (N : Nat) (l0 : Nat) (h : zH) : Option (Int32 × zH) := cond (fT h l0 5) (fM_least_4 N N  l0 (Int32.ofInt 0) (Int32.ofInt 1) h) none
theorem sfM_least {xs : List Int32} (N : Nat) (l0 : Nat) (h : zH) (r : Int32 × zH) (e : fM_least N l0 h = some r) : zt xs (2) 168 0 [(0, .ref l0)] [] h 0 0 (zQ cI r) := by
  have hy := mfM_least_m
  unfold fM_least at e
  replace e := (cond_some e).2
  exact zl hy 4 (pc2 := 4) (lv2 := [(2, .int (Int32.ofInt 1)), (1, .int (Int32.ofInt 0)), (0, .ref l0)]) (st2 := []) rfl <| zt_sub (z_fc rfl (z_fc rfl (z_fc rfl (z_fn)))) <| sfM_least_4 N   N l0 (Int32.ofInt 0) (Int32.ofInt 1) h _ e
theorem rfM_least (N : Nat) (l0 : Nat) (h : zH) (r : Int32 × zH) (e : fM_least N l0 h = some r) : fT h l0 5 = true := by
  unfold fM_least at e
  exact (cond_some e).1
/-- LyndonBenchModel.suffix(I)I -/
theorem mfM_suffix : z_me 169 zc_169 4 [] (some .int) := ⟨z_me0 rfl, rfl, rfl, rfl⟩
abbrev zC_169_52 : List zE := [(52, .iinc 3 1, 3, 0, 0), (55, .goto (-51), 3, 4, 0)]
theorem mfM_suffix_52 : z_me 169 zC_169_52 4 [] (some .int) := ⟨z_me1 (cd := zc_169) rfl (by decide +kernel), rfl, rfl, rfl⟩
abbrev zC_169_50 : List zE := [(50, .iload_n 3, 1, 0, 0), (51, .istore_n 2, 1, 0, 0)]
theorem mfM_suffix_50 : z_me 169 zC_169_50 4 [] (some .int) := ⟨z_me1 (cd := zc_169) rfl (by decide +kernel), rfl, rfl, rfl⟩
abbrev zC_169_4 : List zE := [(4, .iload_n 3, 1, 0, 0), (5, .aload_n 0, 1, 0, 0), (6, .getfield 7, 3, 5, 0), (9, .iconst 1, 1, 0, 0), (10, .iaload, 1, 0, 0), (11, .if_icmp .ge 47, 3, 58, 0), (14, .iload_n 2, 1, 0, 0), (15, .iconst (-1), 1, 0, 0), (16, .if_icmp .eq 34, 3, 50, 0), (19, .iload_n 1, 1, 0, 0), (20, .aload_n 0, 1, 0, 0), (21, .iconst 3, 1, 0, 0), (22, .iload_n 3, 1, 0, 0), (23, .iadd, 1, 0, 0), (24, .aload_n 0, 1, 0, 0), (25, .getfield 7, 3, 5, 0), (28, .iconst 1, 1, 0, 0), (29, .iaload, 1, 0, 0), (30, .iload_n 3, 1, 0, 0), (31, .isub, 1, 0, 0), (32, .iconst 3, 1, 0, 0), (33, .iload_n 2, 1, 0, 0), (34, .iadd, 1, 0, 0), (35, .aload_n 0, 1, 0, 0), (36, .getfield 7, 3, 5, 0), (39, .iconst 1, 1, 0, 0), (40, .iaload, 1, 0, 0), (41, .iload_n 2, 1, 0, 0), (42, .isub, 1, 0, 0), (43, .invokevirtual 62, 3, 153, 4), (46, .imul, 1, 0, 0), (47, .ifCond .le 5, 3, 52, 0), (58, .iload_n 2, 1, 0, 0), (59, .ireturn, 1, 0, 0)]
theorem mfM_suffix_4 : z_me 169 zC_169_4 4 [] (some .int) := ⟨z_me1 (cd := zc_169) rfl (by decide +kernel), rfl, rfl, rfl⟩
abbrev zC_169_m : List zE := [(0, .iconst (-1), 1, 0, 0), (1, .istore_n 2, 1, 0, 0), (2, .iconst 0, 1, 0, 0), (3, .istore_n 3, 1, 0, 0)]
theorem mfM_suffix_m : z_me 169 zC_169_m 4 [] (some .int) := ⟨z_me1 (cd := zc_169) rfl (by decide +kernel), rfl, rfl, rfl⟩
def fM_suffix_52 (N : Nat) (k4 : Nat → Int32 → Int32 → Int32 → zH → Option (Int32 × zH)) (l0 : Nat) (l1 : Int32) (l2 : Int32) (l3 : Int32) (h : zH) : Option (Int32 × zH) := k4 l0 l1 l2 (l3 + Int32.ofInt 1) h
theorem sfM_suffix_52 {xs : List Int32} (N : Nat) (k4 : Nat → Int32 → Int32 → Int32 → zH → Option (Int32 × zH))  (hk4 : ∀ (l0 : Nat) (l1 : Int32) (l2 : Int32) (l3 : Int32) (h : zH) (r : Int32 × zH), k4 l0 l1 l2 l3 h = some r → zt xs (2) 169 4 [(0, .ref l0), (1, .int l1), (2, .int l2), (3, .int l3)] [] h 0 0 (zQ cI r)) (l0 : Nat) (l1 : Int32) (l2 : Int32) (l3 : Int32) (h : zH) (r : Int32 × zH) (e : fM_suffix_52 N k4 l0 l1 l2 l3 h = some r) : zt xs (2) 169 52 [(0, .ref l0), (1, .int l1), (2, .int l2), (3, .int l3)] [] h 0 0 (zQ cI r) := by
  have hy := mfM_suffix_52
  unfold fM_suffix_52 at e
  exact zl hy 2 (pc2 := 4) (lv2 := [(3, .int (l3 + Int32.ofInt 1)), (0, .ref l0), (1, .int l1), (2, .int l2)]) (st2 := []) rfl <| zt_sub (z_fc rfl (z_fc rfl (z_fc rfl (z_fc rfl (z_fn))))) <| hk4 l0 l1 l2 (l3 + Int32.ofInt 1) h _ e
def fM_suffix_50 (N : Nat) (k4 : Nat → Int32 → Int32 → Int32 → zH → Option (Int32 × zH)) (l0 : Nat) (l1 : Int32) (l3 : Int32) (h : zH) : Option (Int32 × zH) := fM_suffix_52 N k4 l0 l1 l3 l3 h
theorem sfM_suffix_50 {xs : List Int32} (N : Nat) (k4 : Nat → Int32 → Int32 → Int32 → zH → Option (Int32 × zH))  (hk4 : ∀ (l0 : Nat) (l1 : Int32) (l2 : Int32) (l3 : Int32) (h : zH) (r : Int32 × zH), k4 l0 l1 l2 l3 h = some r → zt xs (2) 169 4 [(0, .ref l0), (1, .int l1), (2, .int l2), (3, .int l3)] [] h 0 0 (zQ cI r)) (l0 : Nat) (l1 : Int32) (l3 : Int32) (h : zH) (r : Int32 × zH) (e : fM_suffix_50 N k4 l0 l1 l3 h = some r) : zt xs (2) 169 50 [(0, .ref l0), (1, .int l1), (3, .int l3)] [] h 0 0 (zQ cI r) := by
  have hy := mfM_suffix_50
  unfold fM_suffix_50 at e
  exact zl hy 2 (pc2 := 52) (lv2 := [(2, .int l3), (0, .ref l0), (1, .int l1), (3, .int l3)]) (st2 := []) rfl <| zt_sub (z_fc rfl (z_fc rfl (z_fc rfl (z_fc rfl (z_fn))))) <| sfM_suffix_52 N k4 hk4 l0 l1 l3 l3 h _ e
def fM_suffix_4 (N : Nat) : Nat → Nat → Int32 → Int32 → Int32 → zH → Option (Int32 × zH)
  | 0, _, _, _, _, _ => none
  | n + 1, l0, l1, l2, l3, h => b1 (fR h l0 5 0) fun x1 => b1 (fAI h x1 100 (Int32.ofInt 1)) fun x2 => cond (z_cmp .ge l3 x2) (some (l2, h)) (cond (z_cmp .eq l2 (Int32.ofInt (-1))) (fM_suffix_50 N (fM_suffix_4 N n ) l0 l1 l3 h) (b1 (fR h l0 5 0) fun x3 => b1 (fAI h x3 100 (Int32.ofInt 1)) fun x4 => b1 (fR h l0 5 0) fun x5 => b1 (fAI h x5 100 (Int32.ofInt 1)) fun x6 => b2 (fM_compares N l0 ((Int32.ofInt 3) + l3) (x4 - l3) ((Int32.ofInt 3) + l2) (x6 - l2) h) fun x7 h8 => cond (z_cmp .le (l1 * x7) (Int32.ofInt 0)) (fM_suffix_52 N (fM_suffix_4 N n ) l0 l1 l2 l3 h8) (fM_suffix_50 N (fM_suffix_4 N n ) l0 l1 l3 h8)))
theorem sfM_suffix_4 {xs : List Int32} (N : Nat)   : ∀ (n : Nat) (l0 : Nat) (l1 : Int32) (l2 : Int32) (l3 : Int32) (h : zH) (r : Int32 × zH), fM_suffix_4 N n  l0 l1 l2 l3 h = some r → zt xs (2) 169 4 [(0, .ref l0), (1, .int l1), (2, .int l2), (3, .int l3)] [] h 0 0 (zQ cI r) := by
  have hy := mfM_suffix_4
  intro n
  induction n with
  | zero =>
    intro l0 l1 l2 l3 h r e
    rw [fM_suffix_4] at e
    cases e
  | succ n ih =>
    intro l0 l1 l2 l3 h r e
    rw [fM_suffix_4] at e
    exact zl hy 2 (pc2 := 6) (lv2 := [(0, .ref l0), (1, .int l1), (2, .int l2), (3, .int l3)]) (st2 := [.ref l0, .int l3]) rfl <| zx_gR hy rfl e fun x1 _ e => zl hy 1 (pc2 := 10) (lv2 := [(0, .ref l0), (1, .int l1), (2, .int l2), (3, .int l3)]) (st2 := [.int (Int32.ofInt 1), .ref x1, .int l3]) rfl <| zx_aI hy (j := .iaload) (Or.inl ⟨rfl, rfl⟩) rfl e fun x2 _ e => zx_c hy rfl e (fun _ e => zl hy 1 (pc2 := 59) (lv2 := [(0, .ref l0), (1, .int l1), (2, .int l2), (3, .int l3)]) (st2 := [.int l2]) rfl <| zx_ret hy rfl rfl rfl rfl e) (fun _ e => zl hy 2 (pc2 := 16) (lv2 := [(0, .ref l0), (1, .int l1), (2, .int l2), (3, .int l3)]) (st2 := [.int (Int32.ofInt (-1)), .int l2]) rfl <| zx_c hy rfl e (fun _ e => zt_sub (z_fc rfl (z_fc rfl (z_fc rfl (z_fn)))) <| sfM_suffix_50 N (fM_suffix_4 N n ) ih l0 l1 l3 h _ e) (fun _ e => zl hy 6 (pc2 := 25) (lv2 := [(0, .ref l0), (1, .int l1), (2, .int l2), (3, .int l3)]) (st2 := [.ref l0, .int ((Int32.ofInt 3) + l3), .ref l0, .int l1]) rfl <| zx_gR hy rfl e fun x3 _ e => zl hy 1 (pc2 := 29) (lv2 := [(0, .ref l0), (1, .int l1), (2, .int l2), (3, .int l3)]) (st2 := [.int (Int32.ofInt 1), .ref x3, .int ((Int32.ofInt 3) + l3), .ref l0, .int l1]) rfl <| zx_aI hy (j := .iaload) (Or.inl ⟨rfl, rfl⟩) rfl e fun x4 _ e => zl hy 6 (pc2 := 36) (lv2 := [(0, .ref l0), (1, .int l1), (2, .int l2), (3, .int l3)]) (st2 := [.ref l0, .int ((Int32.ofInt 3) + l2), .int (x4 - l3), .int ((Int32.ofInt 3) + l3), .ref l0, .int l1]) rfl <| zx_gR hy rfl e fun x5 _ e => zl hy 1 (pc2 := 40) (lv2 := [(0, .ref l0), (1, .int l1), (2, .int l2), (3, .int l3)]) (st2 := [.int (Int32.ofInt 1), .ref x5, .int ((Int32.ofInt 3) + l2), .int (x4 - l3), .int ((Int32.ofInt 3) + l3), .ref l0, .int l1]) rfl <| zx_aI hy (j := .iaload) (Or.inl ⟨rfl, rfl⟩) rfl e fun x6 _ e => zl hy 2 (pc2 := 43) (lv2 := [(0, .ref l0), (1, .int l1), (2, .int l2), (3, .int l3)]) (st2 := [.int (x6 - l2), .int ((Int32.ofInt 3) + l2), .int (x4 - l3), .int ((Int32.ofInt 3) + l3), .ref l0, .int l1]) rfl <| zx_call hy (as := [.ref l0, .int ((Int32.ofInt 3) + l3), .int (x4 - l3), .int ((Int32.ofInt 3) + l2), .int (x6 - l2)]) (rest := [.int l1]) (ov := (fun v => some (.int v))) (fun _ => rfl) rfl rfl (Or.inl rfl) rfl rfl (Nat.le_of_ble_eq_true rfl) (Nat.le_of_ble_eq_true rfl) (fun _ e _ => z_rcvT (rfM_compares N l0 ((Int32.ofInt 3) + l3) (x4 - l3) ((Int32.ofInt 3) + l2) (x6 - l2) h _ e)) (fun _ e => zt_deep (Nat.le_of_ble_eq_true rfl) (sfM_compares N l0 ((Int32.ofInt 3) + l3) (x4 - l3) ((Int32.ofInt 3) + l2) (x6 - l2) h _ e)) e fun x7 h8 _ e => zl hy 1 (pc2 := 47) (lv2 := [(0, .ref l0), (1, .int l1), (2, .int l2), (3, .int l3)]) (st2 := [.int (l1 * x7)]) rfl <| zx_c0 hy rfl e (fun _ e => zt_sub (z_fc rfl (z_fc rfl (z_fc rfl (z_fc rfl (z_fn))))) <| sfM_suffix_52 N (fM_suffix_4 N n ) ih l0 l1 l2 l3 h8 _ e) (fun _ e => zt_sub (z_fc rfl (z_fc rfl (z_fc rfl (z_fn)))) <| sfM_suffix_50 N (fM_suffix_4 N n ) ih l0 l1 l3 h8 _ e)))
def fM_suffix (N : Nat) (l0 : Nat) (l1 : Int32) (h : zH) : Option (Int32 × zH) := cond (fT h l0 5) (fM_suffix_4 N N  l0 l1 (Int32.ofInt (-1)) (Int32.ofInt 0) h) none
theorem sfM_suffix {xs : List Int32} (N : Nat) (l0 : Nat) (l1 : Int32) (h : zH) (r : Int32 × zH) (e : fM_suffix N l0 l1 h = some r) : zt xs (2) 169 0 [(0, .ref l0), (1, .int l1)] [] h 0 0 (zQ cI r) := by
  have hy := mfM_suffix_m
  unfold fM_suffix at e
  replace e := (cond_some e).2
  exact zl hy 4 (pc2 := 4) (lv2 := [(3, .int (Int32.ofInt 0)), (2, .int (Int32.ofInt (-1))), (0, .ref l0), (1, .int l1)]) (st2 := []) rfl <| zt_sub (z_fc rfl (z_fc rfl (z_fc rfl (z_fc rfl (z_fn))))) <| sfM_suffix_4 N   N l0 l1 (Int32.ofInt (-1)) (Int32.ofInt 0) h _ e
theorem rfM_suffix (N : Nat) (l0 : Nat) (l1 : Int32) (h : zH) (r : Int32 × zH) (e : fM_suffix N l0 l1 h = some r) : fT h l0 5 = true := by
  unfold fM_suffix at e
  exact (cond_some e).1
/-- LyndonBenchModel.power(I)I -/
theorem mfM_power : z_me 170 zc_170 4 [] (some .int) := ⟨z_me0 rfl, rfl, rfl, rfl⟩
abbrev zC_170_31 : List zE := [(31, .iload_n 2, 1, 0, 0), (32, .ireturn, 1, 0, 0)]
theorem mfM_power_31 : z_me 170 zC_170_31 4 [] (some .int) := ⟨z_me1 (cd := zc_170) rfl (by decide +kernel), rfl, rfl, rfl⟩
abbrev zC_170_4 : List zE := [(4, .iload_n 3, 1, 0, 0), (5, .iload_n 1, 1, 0, 0), (6, .if_icmp .ge 25, 3, 31, 0), (9, .iload_n 2, 1, 0, 0), (10, .sipush 4096, 3, 0, 0), (13, .if_icmp .gt 18, 3, 31, 0), (16, .iload_n 2, 1, 0, 0), (17, .aload_n 0, 1, 0, 0), (18, .getfield 7, 3, 5, 0), (21, .iconst 0, 1, 0, 0), (22, .iaload, 1, 0, 0), (23, .imul, 1, 0, 0), (24, .istore_n 2, 1, 0, 0), (25, .iinc 3 1, 3, 0, 0), (28, .goto (-24), 3, 4, 0)]
theorem mfM_power_4 : z_me 170 zC_170_4 4 [] (some .int) := ⟨z_me1 (cd := zc_170) rfl (by decide +kernel), rfl, rfl, rfl⟩
abbrev zC_170_m : List zE := [(0, .iconst 1, 1, 0, 0), (1, .istore_n 2, 1, 0, 0), (2, .iconst 0, 1, 0, 0), (3, .istore_n 3, 1, 0, 0)]
theorem mfM_power_m : z_me 170 zC_170_m 4 [] (some .int) := ⟨z_me1 (cd := zc_170) rfl (by decide +kernel), rfl, rfl, rfl⟩
def fM_power_31 (N : Nat)  (l2 : Int32) (h : zH) : Option (Int32 × zH) := some (l2, h)
theorem sfM_power_31 {xs : List Int32} (N : Nat)   (l2 : Int32) (h : zH) (r : Int32 × zH) (e : fM_power_31 N  l2 h = some r) : zt xs (1) 170 31 [(2, .int l2)] [] h 0 0 (zQ cI r) := by
  have hy := mfM_power_31
  unfold fM_power_31 at e
  exact zl hy 1 (pc2 := 32) (lv2 := [(2, .int l2)]) (st2 := [.int l2]) rfl <| zx_ret hy rfl rfl rfl rfl e
def fM_power_4 (N : Nat) : Nat → Nat → Int32 → Int32 → Int32 → zH → Option (Int32 × zH)
  | 0, _, _, _, _, _ => none
  | n + 1, l0, l1, l2, l3, h => cond (z_cmp .ge l3 l1) (fM_power_31 N  l2 h) (cond (z_cmp .gt l2 (Int32.ofInt 4096)) (fM_power_31 N  l2 h) (b1 (fR h l0 5 0) fun x1 => b1 (fAI h x1 100 (Int32.ofInt 0)) fun x2 => fM_power_4 N n  l0 l1 (l2 * x2) (l3 + Int32.ofInt 1) h))
theorem sfM_power_4 {xs : List Int32} (N : Nat)   : ∀ (n : Nat) (l0 : Nat) (l1 : Int32) (l2 : Int32) (l3 : Int32) (h : zH) (r : Int32 × zH), fM_power_4 N n  l0 l1 l2 l3 h = some r → zt xs (1) 170 4 [(0, .ref l0), (1, .int l1), (2, .int l2), (3, .int l3)] [] h 0 0 (zQ cI r) := by
  have hy := mfM_power_4
  intro n
  induction n with
  | zero =>
    intro l0 l1 l2 l3 h r e
    rw [fM_power_4] at e
    cases e
  | succ n ih =>
    intro l0 l1 l2 l3 h r e
    rw [fM_power_4] at e
    exact zl hy 2 (pc2 := 6) (lv2 := [(0, .ref l0), (1, .int l1), (2, .int l2), (3, .int l3)]) (st2 := [.int l1, .int l3]) rfl <| zx_c hy rfl e (fun _ e => zt_sub (z_fc rfl (z_fn)) <| sfM_power_31 N   l2 h _ e) (fun _ e => zl hy 1 (pc2 := 10) (lv2 := [(0, .ref l0), (1, .int l1), (2, .int l2), (3, .int l3)]) (st2 := [.int l2]) rfl <| zx_sip hy (c := 4096) rfl (by decide) <| zx_c hy rfl e (fun _ e => zt_sub (z_fc rfl (z_fn)) <| sfM_power_31 N   l2 h _ e) (fun _ e => zl hy 2 (pc2 := 18) (lv2 := [(0, .ref l0), (1, .int l1), (2, .int l2), (3, .int l3)]) (st2 := [.ref l0, .int l2]) rfl <| zx_gR hy rfl e fun x1 _ e => zl hy 1 (pc2 := 22) (lv2 := [(0, .ref l0), (1, .int l1), (2, .int l2), (3, .int l3)]) (st2 := [.int (Int32.ofInt 0), .ref x1, .int l2]) rfl <| zx_aI hy (j := .iaload) (Or.inl ⟨rfl, rfl⟩) rfl e fun x2 _ e => zl hy 4 (pc2 := 4) (lv2 := [(3, .int (l3 + Int32.ofInt 1)), (2, .int (l2 * x2)), (0, .ref l0), (1, .int l1)]) (st2 := []) rfl <| zt_sub (z_fc rfl (z_fc rfl (z_fc rfl (z_fc rfl (z_fn))))) <| ih l0 l1 (l2 * x2) (l3 + Int32.ofInt 1) h _ e))
def fM_power (N : Nat) (l0 : Nat) (l1 : Int32) (h : zH) : Option (Int32 × zH) := cond (fT h l0 5) (fM_power_4 N N  l0 l1 (Int32.ofInt 1) (Int32.ofInt 0) h) none
theorem sfM_power {xs : List Int32} (N : Nat) (l0 : Nat) (l1 : Int32) (h : zH) (r : Int32 × zH) (e : fM_power N l0 l1 h = some r) : zt xs (1) 170 0 [(0, .ref l0), (1, .int l1)] [] h 0 0 (zQ cI r) := by
  have hy := mfM_power_m
  unfold fM_power at e
  replace e := (cond_some e).2
  exact zl hy 4 (pc2 := 4) (lv2 := [(3, .int (Int32.ofInt 0)), (2, .int (Int32.ofInt 1)), (0, .ref l0), (1, .int l1)]) (st2 := []) rfl <| zt_sub (z_fc rfl (z_fc rfl (z_fc rfl (z_fc rfl (z_fn))))) <| sfM_power_4 N   N l0 l1 (Int32.ofInt 1) (Int32.ofInt 0) h _ e
theorem rfM_power (N : Nat) (l0 : Nat) (l1 : Int32) (h : zH) (r : Int32 × zH) (e : fM_power N l0 l1 h = some r) : fT h l0 5 = true := by
  unfold fM_power at e
  exact (cond_some e).1
/-- LyndonBenchModel.spells(II)V -/
theorem mfM_spells : z_me 171 zc_171 5 [] none := ⟨z_me0 rfl, rfl, rfl, rfl⟩
abbrev zC_171_12 : List zE := [(12, .iload 4, 2, 0, 0), (14, .ifCond .lt 33, 3, 47, 0), (17, .aload_n 0, 1, 0, 0), (18, .getfield 28, 3, 5, 8), (21, .iload 4, 2, 0, 0), (23, .iload_n 3, 1, 0, 0), (24, .aload_n 0, 1, 0, 0), (25, .getfield 7, 3, 5, 0), (28, .iconst 0, 1, 0, 0), (29, .iaload, 1, 0, 0), (30, .irem, 1, 0, 0), (31, .iastore, 1, 0, 0), (32, .iload_n 3, 1, 0, 0), (33, .aload_n 0, 1, 0, 0), (34, .getfield 7, 3, 5, 0), (37, .iconst 0, 1, 0, 0), (38, .iaload, 1, 0, 0), (39, .idiv, 1, 0, 0), (40, .istore_n 3, 1, 0, 0), (41, .iinc 4 (-1), 3, 0, 0), (44, .goto (-32), 3, 12, 0), (47, .return_, 1, 0, 0)]
theorem mfM_spells_12 : z_me 171 zC_171_12 5 [] none := ⟨z_me1 (cd := zc_171) rfl (by decide +kernel), rfl, rfl, rfl⟩
abbrev zC_171_m : List zE := [(0, .iload_n 1, 1, 0, 0), (1, .istore_n 3, 1, 0, 0), (2, .aload_n 0, 1, 0, 0), (3, .iload_n 2, 1, 0, 0), (4, .putfield 66, 3, 5, 14), (7, .iload_n 2, 1, 0, 0), (8, .iconst 1, 1, 0, 0), (9, .isub, 1, 0, 0), (10, .istore 4, 2, 0, 0)]
theorem mfM_spells_m : z_me 171 zC_171_m 5 [] none := ⟨z_me1 (cd := zc_171) rfl (by decide +kernel), rfl, rfl, rfl⟩
def fM_spells_12 (N : Nat) : Nat → Nat → Int32 → Int32 → zH → Option (Unit × zH)
  | 0, _, _, _, _ => none
  | n + 1, l0, l3, l4, h => cond (z_cmp .lt l4 (Int32.ofInt 0)) (some ((), h)) (b1 (fR h l0 5 8) fun x2 => b1 (fR h l0 5 0) fun x3 => b1 (fAI h x3 100 (Int32.ofInt 0)) fun x4 => (if x4 = Int32.ofInt 0 then none else b1 (fAS h x2 100 l4 (.int (l3 - l3 / x4 * x4))) fun h6 => b1 (fR h6 l0 5 0) fun x7 => b1 (fAI h6 x7 100 (Int32.ofInt 0)) fun x8 => (if x8 = Int32.ofInt 0 then none else fM_spells_12 N n  l0 (l3 / x8) (l4 + Int32.ofInt (-1)) h6)))
theorem sfM_spells_12 {xs : List Int32} (N : Nat)   : ∀ (n : Nat) (l0 : Nat) (l3 : Int32) (l4 : Int32) (h : zH) (r : Unit × zH), fM_spells_12 N n  l0 l3 l4 h = some r → zt xs (1) 171 12 [(0, .ref l0), (3, .int l3), (4, .int l4)] [] h 0 0 (zQ cV r) := by
  have hy := mfM_spells_12
  intro n
  induction n with
  | zero =>
    intro l0 l3 l4 h r e
    rw [fM_spells_12] at e
    cases e
  | succ n ih =>
    intro l0 l3 l4 h r e
    rw [fM_spells_12] at e
    exact zl hy 1 (pc2 := 14) (lv2 := [(0, .ref l0), (3, .int l3), (4, .int l4)]) (st2 := [.int l4]) rfl <| zx_c0 hy rfl e (fun _ e => zx_retV hy rfl rfl e) (fun _ e => zl hy 1 (pc2 := 18) (lv2 := [(0, .ref l0), (3, .int l3), (4, .int l4)]) (st2 := [.ref l0]) rfl <| zx_gR hy rfl e fun x2 _ e => zl hy 3 (pc2 := 25) (lv2 := [(0, .ref l0), (3, .int l3), (4, .int l4)]) (st2 := [.ref l0, .int l3, .int l4, .ref x2]) rfl <| zx_gR hy rfl e fun x3 _ e => zl hy 1 (pc2 := 29) (lv2 := [(0, .ref l0), (3, .int l3), (4, .int l4)]) (st2 := [.int (Int32.ofInt 0), .ref x3, .int l3, .int l4, .ref x2]) rfl <| zx_aI hy (j := .iaload) (Or.inl ⟨rfl, rfl⟩) rfl e fun x4 _ e => zx_rem hy (G := fun _ => b1 (fAS h x2 100 l4 (.int (l3 - l3 / x4 * x4))) fun h6 => b1 (fR h6 l0 5 0) fun x7 => b1 (fAI h6 x7 100 (Int32.ofInt 0)) fun x8 => (if x8 = Int32.ofInt 0 then none else fM_spells_12 N n  l0 (l3 / x8) (l4 + Int32.ofInt (-1)) h6)) rfl e fun _ e => zx_sI hy (j := .iastore) (Or.inl ⟨rfl, rfl, rfl⟩) rfl e fun h6 _ e => zl hy 2 (pc2 := 34) (lv2 := [(0, .ref l0), (3, .int l3), (4, .int l4)]) (st2 := [.ref l0, .int l3]) rfl <| zx_gR hy rfl e fun x7 _ e => zl hy 1 (pc2 := 38) (lv2 := [(0, .ref l0), (3, .int l3), (4, .int l4)]) (st2 := [.int (Int32.ofInt 0), .ref x7, .int l3]) rfl <| zx_aI hy (j := .iaload) (Or.inl ⟨rfl, rfl⟩) rfl e fun x8 _ e => zx_div hy (G := fun _ => fM_spells_12 N n  l0 (l3 / x8) (l4 + Int32.ofInt (-1)) h6) rfl e fun _ e => zl hy 3 (pc2 := 12) (lv2 := [(4, .int (l4 + Int32.ofInt (-1))), (3, .int (l3 / x8)), (0, .ref l0)]) (st2 := []) rfl <| zt_sub (z_fc rfl (z_fc rfl (z_fc rfl (z_fn)))) <| ih l0 (l3 / x8) (l4 + Int32.ofInt (-1)) h6 _ e)
def fM_spells (N : Nat) (l0 : Nat) (l1 : Int32) (l2 : Int32) (h : zH) : Option (Unit × zH) := cond (fT h l0 5) (b1 (fS h l0 5 14 (.int l2)) fun h1 => fM_spells_12 N N  l0 l1 (l2 - (Int32.ofInt 1)) h1) none
theorem sfM_spells {xs : List Int32} (N : Nat) (l0 : Nat) (l1 : Int32) (l2 : Int32) (h : zH) (r : Unit × zH) (e : fM_spells N l0 l1 l2 h = some r) : zt xs (1) 171 0 [(0, .ref l0), (1, .int l1), (2, .int l2)] [] h 0 0 (zQ cV r) := by
  have hy := mfM_spells_m
  unfold fM_spells at e
  replace e := (cond_some e).2
  exact zl hy 4 (pc2 := 4) (lv2 := [(3, .int l1), (0, .ref l0), (1, .int l1), (2, .int l2)]) (st2 := [.int l2, .ref l0]) rfl <| zx_pf hy rfl e (rfl) fun h1 _ e => zl hy 4 (pc2 := 12) (lv2 := [(4, .int (l2 - (Int32.ofInt 1))), (3, .int l1), (0, .ref l0), (1, .int l1), (2, .int l2)]) (st2 := []) rfl <| zt_sub (z_fc rfl (z_fc rfl (z_fc rfl (z_fn)))) <| sfM_spells_12 N   N l0 l1 (l2 - (Int32.ofInt 1)) h1 _ e
theorem rfM_spells (N : Nat) (l0 : Nat) (l1 : Int32) (l2 : Int32) (h : zH) (r : Unit × zH) (e : fM_spells N l0 l1 l2 h = some r) : fT h l0 5 = true := by
  unfold fM_spells at e
  exact (cond_some e).1
/-- LyndonBenchModel.rootLength()I -/
theorem mfM_rootLength : z_me 172 zc_172 2 [] (some .int) := ⟨z_me0 rfl, rfl, rfl, rfl⟩
def fM_rootLength_2 (N : Nat) : Nat → Nat → Int32 → zH → Option (Int32 × zH)
  | 0, _, _, _ => none
  | n + 1, l0, l1, h => b1 (fI h l0 5 14) fun x1 => cond (z_cmp .ge l1 x1) (b1 (fI h l0 5 14) fun x2 => some (x2, h)) (b2 (fM_turned N l0 l1 h) fun x3 h4 => cond (z_cmp .ne x3 (Int32.ofInt 0)) (fM_rootLength_2 N n  l0 (l1 + Int32.ofInt 1) h4) (some (l1, h4)))
theorem sfM_rootLength_2 {xs : List Int32} (N : Nat)   : ∀ (n : Nat) (l0 : Nat) (l1 : Int32) (h : zH) (r : Int32 × zH), fM_rootLength_2 N n  l0 l1 h = some r → zt xs (2) 172 2 [(0, .ref l0), (1, .int l1)] [] h 0 0 (zQ cI r) := by
  have hy := mfM_rootLength
  intro n
  induction n with
  | zero =>
    intro l0 l1 h r e
    rw [fM_rootLength_2] at e
    cases e
  | succ n ih =>
    intro l0 l1 h r e
    rw [fM_rootLength_2] at e
    exact zl hy 2 (pc2 := 4) (lv2 := [(0, .ref l0), (1, .int l1)]) (st2 := [.ref l0, .int l1]) rfl <| zx_gI hy rfl e fun x1 _ e => zx_c hy rfl e (fun _ e => zl hy 1 (pc2 := 27) (lv2 := [(0, .ref l0), (1, .int l1)]) (st2 := [.ref l0]) rfl <| zx_gI hy rfl e fun x2 _ e => zx_ret hy rfl rfl rfl rfl e) (fun _ e => zl hy 2 (pc2 := 12) (lv2 := [(0, .ref l0), (1, .int l1)]) (st2 := [.int l1, .ref l0]) rfl <| zx_call hy (as := [.ref l0, .int l1]) (rest := []) (ov := (fun v => some (.int v))) (fun _ => rfl) rfl rfl (Or.inl rfl) rfl rfl (Nat.le_of_ble_eq_true rfl) (Nat.le_of_ble_eq_true rfl) (fun _ e _ => z_rcvT (rfM_turned N l0 l1 h _ e)) (fun _ e => zt_deep (Nat.le_of_ble_eq_true rfl) (sfM_turned N l0 l1 h _ e)) e fun x3 h4 _ e => zx_c0 hy rfl e (fun _ e => zl hy 2 (pc2 := 2) (lv2 := [(1, .int (l1 + Int32.ofInt 1)), (0, .ref l0)]) (st2 := []) rfl <| zt_sub (z_fc rfl (z_fc rfl (z_fn))) <| ih l0 (l1 + Int32.ofInt 1) h4 _ e) (fun _ e => zl hy 1 (pc2 := 19) (lv2 := [(0, .ref l0), (1, .int l1)]) (st2 := [.int l1]) rfl <| zx_ret hy rfl rfl rfl rfl e))
def fM_rootLength (N : Nat) (l0 : Nat) (h : zH) : Option (Int32 × zH) := cond (fT h l0 5) (fM_rootLength_2 N N  l0 (Int32.ofInt 1) h) none
theorem sfM_rootLength {xs : List Int32} (N : Nat) (l0 : Nat) (h : zH) (r : Int32 × zH) (e : fM_rootLength N l0 h = some r) : zt xs (2) 172 0 [(0, .ref l0)] [] h 0 0 (zQ cI r) := by
  have hy := mfM_rootLength
  unfold fM_rootLength at e
  replace e := (cond_some e).2
  exact zl hy 2 (pc2 := 2) (lv2 := [(1, .int (Int32.ofInt 1)), (0, .ref l0)]) (st2 := []) rfl <| zt_sub (z_fc rfl (z_fc rfl (z_fn))) <| sfM_rootLength_2 N   N l0 (Int32.ofInt 1) h _ e
theorem rfM_rootLength (N : Nat) (l0 : Nat) (h : zH) (r : Int32 × zH) (e : fM_rootLength N l0 h = some r) : fT h l0 5 = true := by
  unfold fM_rootLength at e
  exact (cond_some e).1
/-- LyndonBenchModel.primitives(I)J -/
theorem mfM_primitives : z_me 173 zc_173 5 [] (some .long) := ⟨z_me0 rfl, rfl, rfl, rfl⟩
def fM_primitives_54 (N : Nat) (rc : Nat → Int32 → zH → Option (Int64 × zH)) (k30 : Nat → Int32 → Int64 → Int32 → zH → Option (Int64 × zH)) (l0 : Nat) (l1 : Int32) (l4 : Int32) (s0 : Int64) (s1 : Int64) (h : zH) : Option (Int64 × zH) := k30 l0 l1 (s1 - s0) (l4 + Int32.ofInt 1) h
theorem sfM_primitives_54 {xs : List Int32} (N : Nat) (rc : Nat → Int32 → zH → Option (Int64 × zH)) {D : Nat} (hrc : ∀ (l0 : Nat) (l1 : Int32) (h : zH) (r : Int64 × zH), rc l0 l1 h = some r → zt xs D 173 0 [(0, .ref l0), (1, .int l1)] [] h 0 0 (zQ cL r)) (hrf : ∀ (l0 : Nat) (l1 : Int32) (h : zH) (r : Int64 × zH), rc l0 l1 h = some r → fT h l0 5 = true) (k30 : Nat → Int32 → Int64 → Int32 → zH → Option (Int64 × zH))  (hk30 : ∀ (l0 : Nat) (l1 : Int32) (l2 : Int64) (l4 : Int32) (h : zH) (r : Int64 × zH), k30 l0 l1 l2 l4 h = some r → zt xs (D + 1) 173 30 [(0, .ref l0), (1, .int l1), (2, .long l2), (4, .int l4)] [] h 0 0 (zQ cL r)) (l0 : Nat) (l1 : Int32) (l4 : Int32) (s0 : Int64) (s1 : Int64) (h : zH) (r : Int64 × zH) (e : fM_primitives_54 N rc k30 l0 l1 l4 s0 s1 h = some r) : zt xs (D + 1) 173 54 [(0, .ref l0), (1, .int l1), (4, .int l4)] [.long s0, .long s1] h 0 0 (zQ cL r) := by
  have hy := mfM_primitives
  unfold fM_primitives_54 at e
  exact zl hy 4 (pc2 := 30) (lv2 := [(4, .int (l4 + Int32.ofInt 1)), (2, .long (s1 - s0)), (0, .ref l0), (1, .int l1)]) (st2 := []) rfl <| zt_sub (z_fc rfl (z_fc rfl (z_fc rfl (z_fc rfl (z_fn))))) <| hk30 l0 l1 (s1 - s0) (l4 + Int32.ofInt 1) h _ e
def fM_primitives_30 (N : Nat) (rc : Nat → Int32 → zH → Option (Int64 × zH)) : Nat → Nat → Int32 → Int64 → Int32 → zH → Option (Int64 × zH)
  | 0, _, _, _, _, _ => none
  | n + 1, l0, l1, l2, l4, h => cond (z_cmp .ge l4 l1) (some (l2, h)) ((if l4 = Int32.ofInt 0 then none else cond (z_cmp .ne (l1 - l1 / l4 * l4) (Int32.ofInt 0)) (fM_primitives_54 N rc (fM_primitives_30 N rc n ) l0 l1 l4 (Int64.ofNat 0) l2 h) (b2 (rc l0 l4 h) fun x2 h3 => fM_primitives_54 N rc (fM_primitives_30 N rc n ) l0 l1 l4 x2 l2 h3)))
theorem sfM_primitives_30 {xs : List Int32} (N : Nat) (rc : Nat → Int32 → zH → Option (Int64 × zH)) {D : Nat} (hrc : ∀ (l0 : Nat) (l1 : Int32) (h : zH) (r : Int64 × zH), rc l0 l1 h = some r → zt xs D 173 0 [(0, .ref l0), (1, .int l1)] [] h 0 0 (zQ cL r)) (hrf : ∀ (l0 : Nat) (l1 : Int32) (h : zH) (r : Int64 × zH), rc l0 l1 h = some r → fT h l0 5 = true)   : ∀ (n : Nat) (l0 : Nat) (l1 : Int32) (l2 : Int64) (l4 : Int32) (h : zH) (r : Int64 × zH), fM_primitives_30 N rc n  l0 l1 l2 l4 h = some r → zt xs (D + 1) 173 30 [(0, .ref l0), (1, .int l1), (2, .long l2), (4, .int l4)] [] h 0 0 (zQ cL r) := by
  have hy := mfM_primitives
  intro n
  induction n with
  | zero =>
    intro l0 l1 l2 l4 h r e
    rw [fM_primitives_30] at e
    cases e
  | succ n ih =>
    intro l0 l1 l2 l4 h r e
    rw [fM_primitives_30] at e
    exact zl hy 2 (pc2 := 33) (lv2 := [(0, .ref l0), (1, .int l1), (2, .long l2), (4, .int l4)]) (st2 := [.int l1, .int l4]) rfl <| zx_c hy rfl e (fun _ e => zl hy 1 (pc2 := 63) (lv2 := [(0, .ref l0), (1, .int l1), (2, .long l2), (4, .int l4)]) (st2 := [.long l2]) rfl <| zx_ret hy rfl rfl rfl rfl e) (fun _ e => zl hy 3 (pc2 := 40) (lv2 := [(0, .ref l0), (1, .int l1), (2, .long l2), (4, .int l4)]) (st2 := [.int l4, .int l1, .long l2]) rfl <| zx_rem hy (G := fun _ => cond (z_cmp .ne (l1 - l1 / l4 * l4) (Int32.ofInt 0)) (fM_primitives_54 N rc (fM_primitives_30 N rc n ) l0 l1 l4 (Int64.ofNat 0) l2 h) (b2 (rc l0 l4 h) fun x2 h3 => fM_primitives_54 N rc (fM_primitives_30 N rc n ) l0 l1 l4 x2 l2 h3)) rfl e fun _ e => zx_c0 hy rfl e (fun _ e => zl hy 1 (pc2 := 54) (lv2 := [(0, .ref l0), (1, .int l1), (2, .long l2), (4, .int l4)]) (st2 := [.long (Int64.ofNat 0), .long l2]) rfl <| zt_sub (z_fc rfl (z_fc rfl (z_fc rfl (z_fn)))) <| sfM_primitives_54 N rc hrc hrf (fM_primitives_30 N rc n ) ih l0 l1 l4 (Int64.ofNat 0) l2 h _ e) (fun _ e => zl hy 2 (pc2 := 47) (lv2 := [(0, .ref l0), (1, .int l1), (2, .long l2), (4, .int l4)]) (st2 := [.int l4, .ref l0, .long l2]) rfl <| zx_call hy (as := [.ref l0, .int l4]) (rest := [.long l2]) (ov := (fun v => some (.long v))) (fun _ => rfl) rfl rfl (Or.inl rfl) rfl rfl (Nat.le_of_ble_eq_true rfl) (Nat.le_of_ble_eq_true rfl) (fun _ e _ => z_rcvT (hrf l0 l4 h _ e)) (fun _ e => zt_deep (Nat.le_refl _) (hrc l0 l4 h _ e)) e fun x2 h3 _ e => zl hy 1 (pc2 := 54) (lv2 := [(0, .ref l0), (1, .int l1), (2, .long l2), (4, .int l4)]) (st2 := [.long x2, .long l2]) rfl <| zt_sub (z_fc rfl (z_fc rfl (z_fc rfl (z_fn)))) <| sfM_primitives_54 N rc hrc hrf (fM_primitives_30 N rc n ) ih l0 l1 l4 x2 l2 h3 _ e))
def fM_primitives_5 (N : Nat) (rc : Nat → Int32 → zH → Option (Int64 × zH)) : Nat → Nat → Int32 → Int64 → Int32 → zH → Option (Int64 × zH)
  | 0, _, _, _, _, _ => none
  | n + 1, l0, l1, l2, l4, h => cond (z_cmp .ge l4 l1) (fM_primitives_30 N rc N  l0 l1 l2 (Int32.ofInt 1) h) (b1 (fR h l0 5 0) fun x1 => b1 (fAI h x1 100 (Int32.ofInt 0)) fun x2 => fM_primitives_5 N rc n  l0 l1 (l2 * (x2).toInt64) (l4 + Int32.ofInt 1) h)
theorem sfM_primitives_5 {xs : List Int32} (N : Nat) (rc : Nat → Int32 → zH → Option (Int64 × zH)) {D : Nat} (hrc : ∀ (l0 : Nat) (l1 : Int32) (h : zH) (r : Int64 × zH), rc l0 l1 h = some r → zt xs D 173 0 [(0, .ref l0), (1, .int l1)] [] h 0 0 (zQ cL r)) (hrf : ∀ (l0 : Nat) (l1 : Int32) (h : zH) (r : Int64 × zH), rc l0 l1 h = some r → fT h l0 5 = true)   : ∀ (n : Nat) (l0 : Nat) (l1 : Int32) (l2 : Int64) (l4 : Int32) (h : zH) (r : Int64 × zH), fM_primitives_5 N rc n  l0 l1 l2 l4 h = some r → zt xs (D + 1) 173 5 [(0, .ref l0), (1, .int l1), (2, .long l2), (4, .int l4)] [] h 0 0 (zQ cL r) := by
  have hy := mfM_primitives
  intro n
  induction n with
  | zero =>
    intro l0 l1 l2 l4 h r e
    rw [fM_primitives_5] at e
    cases e
  | succ n ih =>
    intro l0 l1 l2 l4 h r e
    rw [fM_primitives_5] at e
    exact zl hy 2 (pc2 := 8) (lv2 := [(0, .ref l0), (1, .int l1), (2, .long l2), (4, .int l4)]) (st2 := [.int l1, .int l4]) rfl <| zx_c hy rfl e (fun _ e => zl hy 2 (pc2 := 30) (lv2 := [(4, .int (Int32.ofInt 1)), (0, .ref l0), (1, .int l1), (2, .long l2)]) (st2 := []) rfl <| zt_sub (z_fc rfl (z_fc rfl (z_fc rfl (z_fc rfl (z_fn))))) <| sfM_primitives_30 N rc hrc hrf   N l0 l1 l2 (Int32.ofInt 1) h _ e) (fun _ e => zl hy 2 (pc2 := 13) (lv2 := [(0, .ref l0), (1, .int l1), (2, .long l2), (4, .int l4)]) (st2 := [.ref l0, .long l2]) rfl <| zx_gR hy rfl e fun x1 _ e => zl hy 1 (pc2 := 17) (lv2 := [(0, .ref l0), (1, .int l1), (2, .long l2), (4, .int l4)]) (st2 := [.int (Int32.ofInt 0), .ref x1, .long l2]) rfl <| zx_aI hy (j := .iaload) (Or.inl ⟨rfl, rfl⟩) rfl e fun x2 _ e => zl hy 5 (pc2 := 5) (lv2 := [(4, .int (l4 + Int32.ofInt 1)), (2, .long (l2 * (x2).toInt64)), (0, .ref l0), (1, .int l1)]) (st2 := []) rfl <| zt_sub (z_fc rfl (z_fc rfl (z_fc rfl (z_fc rfl (z_fn))))) <| ih l0 l1 (l2 * (x2).toInt64) (l4 + Int32.ofInt 1) h _ e)
def fM_primitives_B (N : Nat) (rc : Nat → Int32 → zH → Option (Int64 × zH)) (l0 : Nat) (l1 : Int32) (h : zH) : Option (Int64 × zH) := cond (fT h l0 5) (fM_primitives_5 N rc N  l0 l1 (Int64.ofNat 1) (Int32.ofInt 0) h) none
theorem sfM_primitives_B {xs : List Int32} (N : Nat) (rc : Nat → Int32 → zH → Option (Int64 × zH)) {D : Nat} (hrc : ∀ (l0 : Nat) (l1 : Int32) (h : zH) (r : Int64 × zH), rc l0 l1 h = some r → zt xs D 173 0 [(0, .ref l0), (1, .int l1)] [] h 0 0 (zQ cL r)) (hrf : ∀ (l0 : Nat) (l1 : Int32) (h : zH) (r : Int64 × zH), rc l0 l1 h = some r → fT h l0 5 = true) (l0 : Nat) (l1 : Int32) (h : zH) (r : Int64 × zH) (e : fM_primitives_B N rc l0 l1 h = some r) : zt xs (D + 1) 173 0 [(0, .ref l0), (1, .int l1)] [] h 0 0 (zQ cL r) := by
  have hy := mfM_primitives
  unfold fM_primitives_B at e
  replace e := (cond_some e).2
  exact zl hy 4 (pc2 := 5) (lv2 := [(4, .int (Int32.ofInt 0)), (2, .long (Int64.ofNat 1)), (0, .ref l0), (1, .int l1)]) (st2 := []) rfl <| zt_sub (z_fc rfl (z_fc rfl (z_fc rfl (z_fc rfl (z_fn))))) <| sfM_primitives_5 N rc hrc hrf   N l0 l1 (Int64.ofNat 1) (Int32.ofInt 0) h _ e
theorem rfM_primitives_B (N : Nat) (rc : Nat → Int32 → zH → Option (Int64 × zH)) (l0 : Nat) (l1 : Int32) (h : zH) (r : Int64 × zH) (e : fM_primitives_B N rc l0 l1 h = some r) : fT h l0 5 = true := by
  unfold fM_primitives_B at e
  exact (cond_some e).1
def fM_primitives (N : Nat) : Nat → Nat → Int32 → zH → Option (Int64 × zH)
  | 0, _, _, _ => none
  | R + 1, l0, l1, h => fM_primitives_B N (fM_primitives N R) l0 l1 h
theorem rfM_primitives (N R : Nat) (l0 : Nat) (l1 : Int32) (h : zH) (r : Int64 × zH) (e : fM_primitives N R l0 l1 h = some r) : fT h l0 5 = true := by
  cases R with
  | zero => rw [fM_primitives] at e; cases e
  | succ R => rw [fM_primitives] at e; exact rfM_primitives_B N _ l0 l1 h r e
theorem sfM_primitives {xs : List Int32} (N : Nat) : ∀ (R : Nat) (l0 : Nat) (l1 : Int32) (h : zH) (r : Int64 × zH), fM_primitives N R l0 l1 h = some r → zt xs (R * 1) 173 0 [(0, .ref l0), (1, .int l1)] [] h 0 0 (zQ cL r) := by
  intro R
  induction R with
  | zero =>
    intro l0 l1 h r e
    rw [fM_primitives] at e
    cases e
  | succ R ih =>
    intro l0 l1 h r e
    rw [fM_primitives] at e
    rw [Nat.succ_mul]
    exact sfM_primitives_B N _ ih (rfM_primitives N R) l0 l1 h r e
/-- LyndonBenchModel.rings(I)J -/
theorem mfM_rings : z_me 174 zc_174 5 [] (some .long) := ⟨z_me0 rfl, rfl, rfl, rfl⟩
abbrev zC_174_33 : List zE := [(33, .ladd, 1, 0, 0), (34, .lstore_n 2, 1, 0, 0), (35, .iinc 4 1, 3, 0, 0), (38, .goto (-33), 3, 5, 0)]
theorem mfM_rings_33 : z_me 174 zC_174_33 5 [] (some .long) := ⟨z_me1 (cd := zc_174) rfl (by decide +kernel), rfl, rfl, rfl⟩
abbrev zC_174_5 : List zE := [(5, .iload 4, 2, 0, 0), (7, .iload_n 1, 1, 0, 0), (8, .if_icmp .gt 33, 3, 41, 0), (11, .lload_n 2, 1, 0, 0), (12, .iload_n 1, 1, 0, 0), (13, .iload 4, 2, 0, 0), (15, .irem, 1, 0, 0), (16, .ifCond .ne 16, 3, 32, 0), (19, .aload_n 0, 1, 0, 0), (20, .iload 4, 2, 0, 0), (22, .invokevirtual 94, 3, 173, 1), (25, .iload 4, 2, 0, 0), (27, .i2l, 1, 0, 0), (28, .ldiv, 1, 0, 0), (29, .goto 4, 3, 33, 0), (32, .lconst 0, 1, 0, 0), (41, .lload_n 2, 1, 0, 0), (42, .lreturn, 1, 0, 0)]
theorem mfM_rings_5 : z_me 174 zC_174_5 5 [] (some .long) := ⟨z_me1 (cd := zc_174) rfl (by decide +kernel), rfl, rfl, rfl⟩
abbrev zC_174_m : List zE := [(0, .lconst 0, 1, 0, 0), (1, .lstore_n 2, 1, 0, 0), (2, .iconst 1, 1, 0, 0), (3, .istore 4, 2, 0, 0)]
theorem mfM_rings_m : z_me 174 zC_174_m 5 [] (some .long) := ⟨z_me1 (cd := zc_174) rfl (by decide +kernel), rfl, rfl, rfl⟩
def fM_rings_33 (N : Nat) (k5 : Nat → Int32 → Int64 → Int32 → zH → Option (Int64 × zH)) (l0 : Nat) (l1 : Int32) (l4 : Int32) (s0 : Int64) (s1 : Int64) (h : zH) : Option (Int64 × zH) := k5 l0 l1 (s1 + s0) (l4 + Int32.ofInt 1) h
theorem sfM_rings_33 {xs : List Int32} (N : Nat) (k5 : Nat → Int32 → Int64 → Int32 → zH → Option (Int64 × zH))  (hk5 : ∀ (l0 : Nat) (l1 : Int32) (l2 : Int64) (l4 : Int32) (h : zH) (r : Int64 × zH), k5 l0 l1 l2 l4 h = some r → zt xs (9) 174 5 [(0, .ref l0), (1, .int l1), (2, .long l2), (4, .int l4)] [] h 0 0 (zQ cL r)) (l0 : Nat) (l1 : Int32) (l4 : Int32) (s0 : Int64) (s1 : Int64) (h : zH) (r : Int64 × zH) (e : fM_rings_33 N k5 l0 l1 l4 s0 s1 h = some r) : zt xs (9) 174 33 [(0, .ref l0), (1, .int l1), (4, .int l4)] [.long s0, .long s1] h 0 0 (zQ cL r) := by
  have hy := mfM_rings_33
  unfold fM_rings_33 at e
  exact zl hy 4 (pc2 := 5) (lv2 := [(4, .int (l4 + Int32.ofInt 1)), (2, .long (s1 + s0)), (0, .ref l0), (1, .int l1)]) (st2 := []) rfl <| zt_sub (z_fc rfl (z_fc rfl (z_fc rfl (z_fc rfl (z_fn))))) <| hk5 l0 l1 (s1 + s0) (l4 + Int32.ofInt 1) h _ e
def fM_rings_5 (N : Nat) : Nat → Nat → Int32 → Int64 → Int32 → zH → Option (Int64 × zH)
  | 0, _, _, _, _, _ => none
  | n + 1, l0, l1, l2, l4, h => cond (z_cmp .gt l4 l1) (some (l2, h)) ((if l4 = Int32.ofInt 0 then none else cond (z_cmp .ne (l1 - l1 / l4 * l4) (Int32.ofInt 0)) (fM_rings_33 N (fM_rings_5 N n ) l0 l1 l4 (Int64.ofNat 0) l2 h) (b2 (fM_primitives N 8 l0 l4 h) fun x2 h3 => (if (l4).toInt64 = Int64.ofInt 0 then none else fM_rings_33 N (fM_rings_5 N n ) l0 l1 l4 (x2 / (l4).toInt64) l2 h3))))
theorem sfM_rings_5 {xs : List Int32} (N : Nat)   : ∀ (n : Nat) (l0 : Nat) (l1 : Int32) (l2 : Int64) (l4 : Int32) (h : zH) (r : Int64 × zH), fM_rings_5 N n  l0 l1 l2 l4 h = some r → zt xs (9) 174 5 [(0, .ref l0), (1, .int l1), (2, .long l2), (4, .int l4)] [] h 0 0 (zQ cL r) := by
  have hy := mfM_rings_5
  intro n
  induction n with
  | zero =>
    intro l0 l1 l2 l4 h r e
    rw [fM_rings_5] at e
    cases e
  | succ n ih =>
    intro l0 l1 l2 l4 h r e
    rw [fM_rings_5] at e
    exact zl hy 2 (pc2 := 8) (lv2 := [(0, .ref l0), (1, .int l1), (2, .long l2), (4, .int l4)]) (st2 := [.int l1, .int l4]) rfl <| zx_c hy rfl e (fun _ e => zl hy 1 (pc2 := 42) (lv2 := [(0, .ref l0), (1, .int l1), (2, .long l2), (4, .int l4)]) (st2 := [.long l2]) rfl <| zx_ret hy rfl rfl rfl rfl e) (fun _ e => zl hy 3 (pc2 := 15) (lv2 := [(0, .ref l0), (1, .int l1), (2, .long l2), (4, .int l4)]) (st2 := [.int l4, .int l1, .long l2]) rfl <| zx_rem hy (G := fun _ => cond (z_cmp .ne (l1 - l1 / l4 * l4) (Int32.ofInt 0)) (fM_rings_33 N (fM_rings_5 N n ) l0 l1 l4 (Int64.ofNat 0) l2 h) (b2 (fM_primitives N 8 l0 l4 h) fun x2 h3 => (if (l4).toInt64 = Int64.ofInt 0 then none else fM_rings_33 N (fM_rings_5 N n ) l0 l1 l4 (x2 / (l4).toInt64) l2 h3))) rfl e fun _ e => zx_c0 hy rfl e (fun _ e => zl hy 1 (pc2 := 33) (lv2 := [(0, .ref l0), (1, .int l1), (2, .long l2), (4, .int l4)]) (st2 := [.long (Int64.ofNat 0), .long l2]) rfl <| zt_sub (z_fc rfl (z_fc rfl (z_fc rfl (z_fn)))) <| sfM_rings_33 N (fM_rings_5 N n ) ih l0 l1 l4 (Int64.ofNat 0) l2 h _ e) (fun _ e => zl hy 2 (pc2 := 22) (lv2 := [(0, .ref l0), (1, .int l1), (2, .long l2), (4, .int l4)]) (st2 := [.int l4, .ref l0, .long l2]) rfl <| zx_call hy (as := [.ref l0, .int l4]) (rest := [.long l2]) (ov := (fun v => some (.long v))) (fun _ => rfl) rfl rfl (Or.inl rfl) rfl rfl (Nat.le_of_ble_eq_true rfl) (Nat.le_of_ble_eq_true rfl) (fun _ e _ => z_rcvT (rfM_primitives N 8 l0 l4 h _ e)) (fun _ e => zt_deep (Nat.le_of_ble_eq_true rfl) (sfM_primitives N 8 l0 l4 h _ e)) e fun x2 h3 _ e => zl hy 2 (pc2 := 28) (lv2 := [(0, .ref l0), (1, .int l1), (2, .long l2), (4, .int l4)]) (st2 := [.long (l4).toInt64, .long x2, .long l2]) rfl <| zx_ldv hy (G := fun _ => fM_rings_33 N (fM_rings_5 N n ) l0 l1 l4 (x2 / (l4).toInt64) l2 h3) rfl e fun _ e => zl hy 1 (pc2 := 33) (lv2 := [(0, .ref l0), (1, .int l1), (2, .long l2), (4, .int l4)]) (st2 := [.long (x2 / (l4).toInt64), .long l2]) rfl <| zt_sub (z_fc rfl (z_fc rfl (z_fc rfl (z_fn)))) <| sfM_rings_33 N (fM_rings_5 N n ) ih l0 l1 l4 (x2 / (l4).toInt64) l2 h3 _ e))
def fM_rings (N : Nat) (l0 : Nat) (l1 : Int32) (h : zH) : Option (Int64 × zH) := cond (fT h l0 5) (fM_rings_5 N N  l0 l1 (Int64.ofNat 0) (Int32.ofInt 1) h) none
theorem sfM_rings {xs : List Int32} (N : Nat) (l0 : Nat) (l1 : Int32) (h : zH) (r : Int64 × zH) (e : fM_rings N l0 l1 h = some r) : zt xs (9) 174 0 [(0, .ref l0), (1, .int l1)] [] h 0 0 (zQ cL r) := by
  have hy := mfM_rings_m
  unfold fM_rings at e
  replace e := (cond_some e).2
  exact zl hy 4 (pc2 := 5) (lv2 := [(4, .int (Int32.ofInt 1)), (2, .long (Int64.ofNat 0)), (0, .ref l0), (1, .int l1)]) (st2 := []) rfl <| zt_sub (z_fc rfl (z_fc rfl (z_fc rfl (z_fc rfl (z_fn))))) <| sfM_rings_5 N   N l0 l1 (Int64.ofNat 0) (Int32.ofInt 1) h _ e
theorem rfM_rings (N : Nat) (l0 : Nat) (l1 : Int32) (h : zH) (r : Int64 × zH) (e : fM_rings N l0 l1 h = some r) : fT h l0 5 = true := by
  unfold fM_rings at e
  exact (cond_some e).1
/-- LyndonBenchModel.takes()I -/
theorem mfM_takes : z_me 175 zc_175 2 [] (some .int) := ⟨z_me0 rfl, rfl, rfl, rfl⟩
abbrev zC_175_43 : List zE := [(43, .iastore, 1, 0, 0), (44, .iinc 1 1, 3, 0, 0), (47, .goto (-35), 3, 12, 0)]
theorem mfM_takes_43 : z_me 175 zC_175_43 2 [] (some .int) := ⟨z_me1 (cd := zc_175) rfl (by decide +kernel), rfl, rfl, rfl⟩
abbrev zC_175_12 : List zE := [(12, .iload_n 1, 1, 0, 0), (13, .bipush 120, 2, 0, 0), (15, .if_icmp .ge 35, 3, 50, 0), (18, .aload_n 0, 1, 0, 0), (19, .getfield 7, 3, 5, 0), (22, .iconst 3, 1, 0, 0), (23, .iload_n 1, 1, 0, 0), (24, .iadd, 1, 0, 0), (25, .iload_n 1, 1, 0, 0), (26, .aload_n 0, 1, 0, 0), (27, .getfield 66, 3, 5, 14), (30, .if_icmp .ge 12, 3, 42, 0), (33, .aload_n 0, 1, 0, 0), (34, .getfield 28, 3, 5, 8), (37, .iload_n 1, 1, 0, 0), (38, .iaload, 1, 0, 0), (39, .goto 4, 3, 43, 0), (42, .iconst 0, 1, 0, 0), (50, .aload_n 0, 1, 0, 0), (51, .getfield 66, 3, 5, 14), (54, .ireturn, 1, 0, 0)]
theorem mfM_takes_12 : z_me 175 zC_175_12 2 [] (some .int) := ⟨z_me1 (cd := zc_175) rfl (by decide +kernel), rfl, rfl, rfl⟩
abbrev zC_175_m : List zE := [(0, .aload_n 0, 1, 0, 0), (1, .getfield 7, 3, 5, 0), (4, .iconst 1, 1, 0, 0), (5, .aload_n 0, 1, 0, 0), (6, .getfield 66, 3, 5, 14), (9, .iastore, 1, 0, 0), (10, .iconst 0, 1, 0, 0), (11, .istore_n 1, 1, 0, 0)]
theorem mfM_takes_m : z_me 175 zC_175_m 2 [] (some .int) := ⟨z_me1 (cd := zc_175) rfl (by decide +kernel), rfl, rfl, rfl⟩
def fM_takes_43 (N : Nat) (k12 : Nat → Int32 → zH → Option (Int32 × zH)) (l0 : Nat) (l1 : Int32) (s0 : Int32) (s1 : Int32) (s2 : Nat) (h : zH) : Option (Int32 × zH) := b1 (fAS h s2 100 s1 (.int s0)) fun h7 => k12 l0 (l1 + Int32.ofInt 1) h7
theorem sfM_takes_43 {xs : List Int32} (N : Nat) (k12 : Nat → Int32 → zH → Option (Int32 × zH))  (hk12 : ∀ (l0 : Nat) (l1 : Int32) (h : zH) (r : Int32 × zH), k12 l0 l1 h = some r → zt xs (1) 175 12 [(0, .ref l0), (1, .int l1)] [] h 0 0 (zQ cI r)) (l0 : Nat) (l1 : Int32) (s0 : Int32) (s1 : Int32) (s2 : Nat) (h : zH) (r : Int32 × zH) (e : fM_takes_43 N k12 l0 l1 s0 s1 s2 h = some r) : zt xs (1) 175 43 [(0, .ref l0), (1, .int l1)] [.int s0, .int s1, .ref s2] h 0 0 (zQ cI r) := by
  have hy := mfM_takes_43
  unfold fM_takes_43 at e
  exact zx_sI hy (j := .iastore) (Or.inl ⟨rfl, rfl, rfl⟩) rfl e fun h7 _ e => zl hy 2 (pc2 := 12) (lv2 := [(1, .int (l1 + Int32.ofInt 1)), (0, .ref l0)]) (st2 := []) rfl <| zt_sub (z_fc rfl (z_fc rfl (z_fn))) <| hk12 l0 (l1 + Int32.ofInt 1) h7 _ e
def fM_takes_12 (N : Nat) : Nat → Nat → Int32 → zH → Option (Int32 × zH)
  | 0, _, _, _ => none
  | n + 1, l0, l1, h => cond (z_cmp .ge l1 (Int32.ofInt 120)) (b1 (fI h l0 5 14) fun x4 => some (x4, h)) (b1 (fR h l0 5 0) fun x5 => b1 (fI h l0 5 14) fun x6 => cond (z_cmp .ge l1 x6) (fM_takes_43 N (fM_takes_12 N n ) l0 l1 (Int32.ofInt 0) ((Int32.ofInt 3) + l1) x5 h) (b1 (fR h l0 5 8) fun x7 => b1 (fAI h x7 100 l1) fun x8 => fM_takes_43 N (fM_takes_12 N n ) l0 l1 x8 ((Int32.ofInt 3) + l1) x5 h))
theorem sfM_takes_12 {xs : List Int32} (N : Nat)   : ∀ (n : Nat) (l0 : Nat) (l1 : Int32) (h : zH) (r : Int32 × zH), fM_takes_12 N n  l0 l1 h = some r → zt xs (1) 175 12 [(0, .ref l0), (1, .int l1)] [] h 0 0 (zQ cI r) := by
  have hy := mfM_takes_12
  intro n
  induction n with
  | zero =>
    intro l0 l1 h r e
    rw [fM_takes_12] at e
    cases e
  | succ n ih =>
    intro l0 l1 h r e
    rw [fM_takes_12] at e
    exact zl hy 1 (pc2 := 13) (lv2 := [(0, .ref l0), (1, .int l1)]) (st2 := [.int l1]) rfl <| zx_bip hy (c := 120) rfl (by decide) <| zx_c hy rfl e (fun _ e => zl hy 1 (pc2 := 51) (lv2 := [(0, .ref l0), (1, .int l1)]) (st2 := [.ref l0]) rfl <| zx_gI hy rfl e fun x4 _ e => zx_ret hy rfl rfl rfl rfl e) (fun _ e => zl hy 1 (pc2 := 19) (lv2 := [(0, .ref l0), (1, .int l1)]) (st2 := [.ref l0]) rfl <| zx_gR hy rfl e fun x5 _ e => zl hy 5 (pc2 := 27) (lv2 := [(0, .ref l0), (1, .int l1)]) (st2 := [.ref l0, .int l1, .int ((Int32.ofInt 3) + l1), .ref x5]) rfl <| zx_gI hy rfl e fun x6 _ e => zx_c hy rfl e (fun _ e => zl hy 1 (pc2 := 43) (lv2 := [(0, .ref l0), (1, .int l1)]) (st2 := [.int (Int32.ofInt 0), .int ((Int32.ofInt 3) + l1), .ref x5]) rfl <| zt_sub (z_fc rfl (z_fc rfl (z_fn))) <| sfM_takes_43 N (fM_takes_12 N n ) ih l0 l1 (Int32.ofInt 0) ((Int32.ofInt 3) + l1) x5 h _ e) (fun _ e => zl hy 1 (pc2 := 34) (lv2 := [(0, .ref l0), (1, .int l1)]) (st2 := [.ref l0, .int ((Int32.ofInt 3) + l1), .ref x5]) rfl <| zx_gR hy rfl e fun x7 _ e => zl hy 1 (pc2 := 38) (lv2 := [(0, .ref l0), (1, .int l1)]) (st2 := [.int l1, .ref x7, .int ((Int32.ofInt 3) + l1), .ref x5]) rfl <| zx_aI hy (j := .iaload) (Or.inl ⟨rfl, rfl⟩) rfl e fun x8 _ e => zl hy 1 (pc2 := 43) (lv2 := [(0, .ref l0), (1, .int l1)]) (st2 := [.int x8, .int ((Int32.ofInt 3) + l1), .ref x5]) rfl <| zt_sub (z_fc rfl (z_fc rfl (z_fn))) <| sfM_takes_43 N (fM_takes_12 N n ) ih l0 l1 x8 ((Int32.ofInt 3) + l1) x5 h _ e))
def fM_takes (N : Nat) (l0 : Nat) (h : zH) : Option (Int32 × zH) := cond (fT h l0 5) (b1 (fR h l0 5 0) fun x1 => b1 (fI h l0 5 14) fun x2 => b1 (fAS h x1 100 (Int32.ofInt 1) (.int x2)) fun h3 => fM_takes_12 N N  l0 (Int32.ofInt 0) h3) none
theorem sfM_takes {xs : List Int32} (N : Nat) (l0 : Nat) (h : zH) (r : Int32 × zH) (e : fM_takes N l0 h = some r) : zt xs (1) 175 0 [(0, .ref l0)] [] h 0 0 (zQ cI r) := by
  have hy := mfM_takes_m
  unfold fM_takes at e
  replace e := (cond_some e).2
  exact zl hy 1 (pc2 := 1) (lv2 := [(0, .ref l0)]) (st2 := [.ref l0]) rfl <| zx_gR hy rfl e fun x1 _ e => zl hy 2 (pc2 := 6) (lv2 := [(0, .ref l0)]) (st2 := [.ref l0, .int (Int32.ofInt 1), .ref x1]) rfl <| zx_gI hy rfl e fun x2 _ e => zx_sI hy (j := .iastore) (Or.inl ⟨rfl, rfl, rfl⟩) rfl e fun h3 _ e => zl hy 2 (pc2 := 12) (lv2 := [(1, .int (Int32.ofInt 0)), (0, .ref l0)]) (st2 := []) rfl <| zt_sub (z_fc rfl (z_fc rfl (z_fn))) <| sfM_takes_12 N   N l0 (Int32.ofInt 0) h3 _ e
theorem rfM_takes (N : Nat) (l0 : Nat) (h : zH) (r : Int32 × zH) (e : fM_takes N l0 h = some r) : fT h l0 5 = true := by
  unfold fM_takes at e
  exact (cond_some e).1
/-- LyndonBenchModel.appends(I)I -/
theorem mfM_appends : z_me 176 zc_176 2 [] (some .int) := ⟨z_me0 rfl, rfl, rfl, rfl⟩
def fM_appends (N : Nat) (l0 : Nat) (l1 : Int32) (h : zH) : Option (Int32 × zH) := cond (fT h l0 5) (b2 (fM_loads N l0 h) fun _ h2 => b2 (fM_adds N l0 l1 h2) fun _ h4 => b2 (fM_takes N l0 h4) fun x5 h6 => b2 (fM_factors N l0 h6) fun x7 h8 => some (x7, h8)) none
theorem sfM_appends {xs : List Int32} (N : Nat) (l0 : Nat) (l1 : Int32) (h : zH) (r : Int32 × zH) (e : fM_appends N l0 l1 h = some r) : zt xs (4) 176 0 [(0, .ref l0), (1, .int l1)] [] h 0 0 (zQ cI r) := by
  have hy := mfM_appends
  unfold fM_appends at e
  replace e := (cond_some e).2
  exact zl hy 1 (pc2 := 1) (lv2 := [(0, .ref l0), (1, .int l1)]) (st2 := [.ref l0]) rfl <| zx_call hy (as := [.ref l0]) (rest := []) (ov := (fun _ => none)) (fun _ => rfl) rfl rfl (Or.inl rfl) rfl rfl (Nat.le_of_ble_eq_true rfl) (Nat.le_of_ble_eq_true rfl) (fun _ e _ => z_rcvT (rfM_loads N l0 h _ e)) (fun _ e => zt_deep (Nat.le_of_ble_eq_true rfl) (sfM_loads N l0 h _ e)) e fun _ h2 _ e => zl hy 2 (pc2 := 6) (lv2 := [(0, .ref l0), (1, .int l1)]) (st2 := [.int l1, .ref l0]) rfl <| zx_call hy (as := [.ref l0, .int l1]) (rest := []) (ov := (fun _ => none)) (fun _ => rfl) rfl rfl (Or.inl rfl) rfl rfl (Nat.le_of_ble_eq_true rfl) (Nat.le_of_ble_eq_true rfl) (fun _ e _ => z_rcvT (rfM_adds N l0 l1 h2 _ e)) (fun _ e => zt_deep (Nat.le_of_ble_eq_true rfl) (sfM_adds N l0 l1 h2 _ e)) e fun _ h4 _ e => zl hy 1 (pc2 := 10) (lv2 := [(0, .ref l0), (1, .int l1)]) (st2 := [.ref l0]) rfl <| zx_call hy (as := [.ref l0]) (rest := []) (ov := (fun v => some (.int v))) (fun _ => rfl) rfl rfl (Or.inl rfl) rfl rfl (Nat.le_of_ble_eq_true rfl) (Nat.le_of_ble_eq_true rfl) (fun _ e _ => z_rcvT (rfM_takes N l0 h4 _ e)) (fun _ e => zt_deep (Nat.le_of_ble_eq_true rfl) (sfM_takes N l0 h4 _ e)) e fun x5 h6 _ e => zl hy 2 (pc2 := 15) (lv2 := [(0, .ref l0), (1, .int l1)]) (st2 := [.ref l0]) rfl <| zx_call hy (as := [.ref l0]) (rest := []) (ov := (fun v => some (.int v))) (fun _ => rfl) rfl rfl (Or.inl rfl) rfl rfl (Nat.le_of_ble_eq_true rfl) (Nat.le_of_ble_eq_true rfl) (fun _ e _ => z_rcvT (rfM_factors N l0 h6 _ e)) (fun _ e => zt_deep (Nat.le_of_ble_eq_true rfl) (sfM_factors N l0 h6 _ e)) e fun x7 h8 _ e => zx_ret hy rfl rfl rfl rfl e
theorem rfM_appends (N : Nat) (l0 : Nat) (l1 : Int32) (h : zH) (r : Int32 × zH) (e : fM_appends N l0 l1 h = some r) : fT h l0 5 = true := by
  unfold fM_appends at e
  exact (cond_some e).1
/-- LyndonBenchModel.drops(I)I -/
theorem mfM_drops : z_me 177 zc_177 2 [] (some .int) := ⟨z_me0 rfl, rfl, rfl, rfl⟩
def fM_drops (N : Nat) (l0 : Nat) (l1 : Int32) (h : zH) : Option (Int32 × zH) := cond (fT h l0 5) (b2 (fM_loads N l0 h) fun _ h2 => b1 (fI h2 l0 5 14) fun x3 => b1 (fS h2 l0 5 14 (.int (x3 - l1))) fun h4 => b2 (fM_takes N l0 h4) fun x5 h6 => b2 (fM_factors N l0 h6) fun x7 h8 => some (x7, h8)) none
theorem sfM_drops {xs : List Int32} (N : Nat) (l0 : Nat) (l1 : Int32) (h : zH) (r : Int32 × zH) (e : fM_drops N l0 l1 h = some r) : zt xs (4) 177 0 [(0, .ref l0), (1, .int l1)] [] h 0 0 (zQ cI r) := by
  have hy := mfM_drops
  unfold fM_drops at e
  replace e := (cond_some e).2
  exact zl hy 1 (pc2 := 1) (lv2 := [(0, .ref l0), (1, .int l1)]) (st2 := [.ref l0]) rfl <| zx_call hy (as := [.ref l0]) (rest := []) (ov := (fun _ => none)) (fun _ => rfl) rfl rfl (Or.inl rfl) rfl rfl (Nat.le_of_ble_eq_true rfl) (Nat.le_of_ble_eq_true rfl) (fun _ e _ => z_rcvT (rfM_loads N l0 h _ e)) (fun _ e => zt_deep (Nat.le_of_ble_eq_true rfl) (sfM_loads N l0 h _ e)) e fun _ h2 _ e => zl hy 2 (pc2 := 6) (lv2 := [(0, .ref l0), (1, .int l1)]) (st2 := [.ref l0, .ref l0]) rfl <| zx_gI hy rfl e fun x3 _ e => zl hy 2 (pc2 := 11) (lv2 := [(0, .ref l0), (1, .int l1)]) (st2 := [.int (x3 - l1), .ref l0]) rfl <| zx_pf hy rfl e (rfl) fun h4 _ e => zl hy 1 (pc2 := 15) (lv2 := [(0, .ref l0), (1, .int l1)]) (st2 := [.ref l0]) rfl <| zx_call hy (as := [.ref l0]) (rest := []) (ov := (fun v => some (.int v))) (fun _ => rfl) rfl rfl (Or.inl rfl) rfl rfl (Nat.le_of_ble_eq_true rfl) (Nat.le_of_ble_eq_true rfl) (fun _ e _ => z_rcvT (rfM_takes N l0 h4 _ e)) (fun _ e => zt_deep (Nat.le_of_ble_eq_true rfl) (sfM_takes N l0 h4 _ e)) e fun x5 h6 _ e => zl hy 2 (pc2 := 20) (lv2 := [(0, .ref l0), (1, .int l1)]) (st2 := [.ref l0]) rfl <| zx_call hy (as := [.ref l0]) (rest := []) (ov := (fun v => some (.int v))) (fun _ => rfl) rfl rfl (Or.inl rfl) rfl rfl (Nat.le_of_ble_eq_true rfl) (Nat.le_of_ble_eq_true rfl) (fun _ e _ => z_rcvT (rfM_factors N l0 h6 _ e)) (fun _ e => zt_deep (Nat.le_of_ble_eq_true rfl) (sfM_factors N l0 h6 _ e)) e fun x7 h8 _ e => zx_ret hy rfl rfl rfl rfl e
theorem rfM_drops (N : Nat) (l0 : Nat) (l1 : Int32) (h : zH) (r : Int32 × zH) (e : fM_drops N l0 l1 h = some r) : fT h l0 5 = true := by
  unfold fM_drops at e
  exact (cond_some e).1
/-- LyndonBenchModel.parts(II)I -/
theorem mfM_parts : z_me 178 zc_178 4 [] (some .int) := ⟨z_me0 rfl, rfl, rfl, rfl⟩
abbrev zC_178_9 : List zE := [(9, .iload_n 3, 1, 0, 0), (10, .iload_n 2, 1, 0, 0), (11, .if_icmp .ge 25, 3, 36, 0), (14, .aload_n 0, 1, 0, 0), (15, .getfield 28, 3, 5, 8), (18, .iload_n 3, 1, 0, 0), (19, .iload_n 1, 1, 0, 0), (20, .isub, 1, 0, 0), (21, .aload_n 0, 1, 0, 0), (22, .getfield 7, 3, 5, 0), (25, .iconst 3, 1, 0, 0), (26, .iload_n 3, 1, 0, 0), (27, .iadd, 1, 0, 0), (28, .iaload, 1, 0, 0), (29, .iastore, 1, 0, 0), (30, .iinc 3 1, 3, 0, 0), (33, .goto (-24), 3, 9, 0), (36, .aload_n 0, 1, 0, 0), (37, .invokevirtual 102, 3, 175, 0), (40, .ireturn, 1, 0, 0)]
theorem mfM_parts_9 : z_me 178 zC_178_9 4 [] (some .int) := ⟨z_me1 (cd := zc_178) rfl (by decide +kernel), rfl, rfl, rfl⟩
abbrev zC_178_m : List zE := [(0, .aload_n 0, 1, 0, 0), (1, .iload_n 2, 1, 0, 0), (2, .iload_n 1, 1, 0, 0), (3, .isub, 1, 0, 0), (4, .putfield 66, 3, 5, 14), (7, .iload_n 1, 1, 0, 0), (8, .istore_n 3, 1, 0, 0)]
theorem mfM_parts_m : z_me 178 zC_178_m 4 [] (some .int) := ⟨z_me1 (cd := zc_178) rfl (by decide +kernel), rfl, rfl, rfl⟩
def fM_parts_9 (N : Nat) : Nat → Nat → Int32 → Int32 → Int32 → zH → Option (Int32 × zH)
  | 0, _, _, _, _, _ => none
  | n + 1, l0, l1, l2, l3, h => cond (z_cmp .ge l3 l2) (b2 (fM_takes N l0 h) fun x2 h3 => some (x2, h3)) (b1 (fR h l0 5 8) fun x4 => b1 (fR h l0 5 0) fun x5 => b1 (fAI h x5 100 ((Int32.ofInt 3) + l3)) fun x6 => b1 (fAS h x4 100 (l3 - l1) (.int x6)) fun h7 => fM_parts_9 N n  l0 l1 l2 (l3 + Int32.ofInt 1) h7)
theorem sfM_parts_9 {xs : List Int32} (N : Nat)   : ∀ (n : Nat) (l0 : Nat) (l1 : Int32) (l2 : Int32) (l3 : Int32) (h : zH) (r : Int32 × zH), fM_parts_9 N n  l0 l1 l2 l3 h = some r → zt xs (2) 178 9 [(0, .ref l0), (1, .int l1), (2, .int l2), (3, .int l3)] [] h 0 0 (zQ cI r) := by
  have hy := mfM_parts_9
  intro n
  induction n with
  | zero =>
    intro l0 l1 l2 l3 h r e
    rw [fM_parts_9] at e
    cases e
  | succ n ih =>
    intro l0 l1 l2 l3 h r e
    rw [fM_parts_9] at e
    exact zl hy 2 (pc2 := 11) (lv2 := [(0, .ref l0), (1, .int l1), (2, .int l2), (3, .int l3)]) (st2 := [.int l2, .int l3]) rfl <| zx_c hy rfl e (fun _ e => zl hy 1 (pc2 := 37) (lv2 := [(0, .ref l0), (1, .int l1), (2, .int l2), (3, .int l3)]) (st2 := [.ref l0]) rfl <| zx_call hy (as := [.ref l0]) (rest := []) (ov := (fun v => some (.int v))) (fun _ => rfl) rfl rfl (Or.inl rfl) rfl rfl (Nat.le_of_ble_eq_true rfl) (Nat.le_of_ble_eq_true rfl) (fun _ e _ => z_rcvT (rfM_takes N l0 h _ e)) (fun _ e => zt_deep (Nat.le_of_ble_eq_true rfl) (sfM_takes N l0 h _ e)) e fun x2 h3 _ e => zx_ret hy rfl rfl rfl rfl e) (fun _ e => zl hy 1 (pc2 := 15) (lv2 := [(0, .ref l0), (1, .int l1), (2, .int l2), (3, .int l3)]) (st2 := [.ref l0]) rfl <| zx_gR hy rfl e fun x4 _ e => zl hy 4 (pc2 := 22) (lv2 := [(0, .ref l0), (1, .int l1), (2, .int l2), (3, .int l3)]) (st2 := [.ref l0, .int (l3 - l1), .ref x4]) rfl <| zx_gR hy rfl e fun x5 _ e => zl hy 3 (pc2 := 28) (lv2 := [(0, .ref l0), (1, .int l1), (2, .int l2), (3, .int l3)]) (st2 := [.int ((Int32.ofInt 3) + l3), .ref x5, .int (l3 - l1), .ref x4]) rfl <| zx_aI hy (j := .iaload) (Or.inl ⟨rfl, rfl⟩) rfl e fun x6 _ e => zx_sI hy (j := .iastore) (Or.inl ⟨rfl, rfl, rfl⟩) rfl e fun h7 _ e => zl hy 2 (pc2 := 9) (lv2 := [(3, .int (l3 + Int32.ofInt 1)), (0, .ref l0), (1, .int l1), (2, .int l2)]) (st2 := []) rfl <| zt_sub (z_fc rfl (z_fc rfl (z_fc rfl (z_fc rfl (z_fn))))) <| ih l0 l1 l2 (l3 + Int32.ofInt 1) h7 _ e)
def fM_parts (N : Nat) (l0 : Nat) (l1 : Int32) (l2 : Int32) (h : zH) : Option (Int32 × zH) := cond (fT h l0 5) (b1 (fS h l0 5 14 (.int (l2 - l1))) fun h1 => fM_parts_9 N N  l0 l1 l2 l1 h1) none
theorem sfM_parts {xs : List Int32} (N : Nat) (l0 : Nat) (l1 : Int32) (l2 : Int32) (h : zH) (r : Int32 × zH) (e : fM_parts N l0 l1 l2 h = some r) : zt xs (2) 178 0 [(0, .ref l0), (1, .int l1), (2, .int l2)] [] h 0 0 (zQ cI r) := by
  have hy := mfM_parts_m
  unfold fM_parts at e
  replace e := (cond_some e).2
  exact zl hy 4 (pc2 := 4) (lv2 := [(0, .ref l0), (1, .int l1), (2, .int l2)]) (st2 := [.int (l2 - l1), .ref l0]) rfl <| zx_pf hy rfl e (rfl) fun h1 _ e => zl hy 2 (pc2 := 9) (lv2 := [(3, .int l1), (0, .ref l0), (1, .int l1), (2, .int l2)]) (st2 := []) rfl <| zt_sub (z_fc rfl (z_fc rfl (z_fc rfl (z_fc rfl (z_fn))))) <| sfM_parts_9 N   N l0 l1 l2 l1 h1 _ e
theorem rfM_parts (N : Nat) (l0 : Nat) (l1 : Int32) (l2 : Int32) (h : zH) (r : Int32 × zH) (e : fM_parts N l0 l1 l2 h = some r) : fT h l0 5 = true := by
  unfold fM_parts at e
  exact (cond_some e).1
/-- LyndonBenchModel.turns(I)I -/
theorem mfM_turns : z_me 179 zc_179 2 [] (some .int) := ⟨z_me0 rfl, rfl, rfl, rfl⟩
def fM_turns_19 (N : Nat)  (l0 : Nat) (h : zH) : Option (Int32 × zH) := b2 (fM_factors N l0 h) fun x3 h4 => some (x3, h4)
theorem sfM_turns_19 {xs : List Int32} (N : Nat)   (l0 : Nat) (h : zH) (r : Int32 × zH) (e : fM_turns_19 N  l0 h = some r) : zt xs (4) 179 19 [(0, .ref l0)] [] h 0 0 (zQ cI r) := by
  have hy := mfM_turns
  unfold fM_turns_19 at e
  exact zl hy 1 (pc2 := 20) (lv2 := [(0, .ref l0)]) (st2 := [.ref l0]) rfl <| zx_call hy (as := [.ref l0]) (rest := []) (ov := (fun v => some (.int v))) (fun _ => rfl) rfl rfl (Or.inl rfl) rfl rfl (Nat.le_of_ble_eq_true rfl) (Nat.le_of_ble_eq_true rfl) (fun _ e _ => z_rcvT (rfM_factors N l0 h _ e)) (fun _ e => zt_deep (Nat.le_of_ble_eq_true rfl) (sfM_factors N l0 h _ e)) e fun x3 h4 _ e => zx_ret hy rfl rfl rfl rfl e
def fM_turns (N : Nat) (l0 : Nat) (l1 : Int32) (h : zH) : Option (Int32 × zH) := cond (fT h l0 5) (b1 (fR h l0 5 0) fun x1 => b1 (fAI h x1 100 (Int32.ofInt 1)) fun x2 => cond (z_cmp .le x2 (Int32.ofInt 0)) (fM_turns_19 N  l0 h) (b2 (fM_loadsRotated N l0 l1 h) fun _ h4 => b2 (fM_takes N l0 h4) fun x5 h6 => fM_turns_19 N  l0 h6)) none
theorem sfM_turns {xs : List Int32} (N : Nat) (l0 : Nat) (l1 : Int32) (h : zH) (r : Int32 × zH) (e : fM_turns N l0 l1 h = some r) : zt xs (4) 179 0 [(0, .ref l0), (1, .int l1)] [] h 0 0 (zQ cI r) := by
  have hy := mfM_turns
  unfold fM_turns at e
  replace e := (cond_some e).2
  exact zl hy 1 (pc2 := 1) (lv2 := [(0, .ref l0), (1, .int l1)]) (st2 := [.ref l0]) rfl <| zx_gR hy rfl e fun x1 _ e => zl hy 1 (pc2 := 5) (lv2 := [(0, .ref l0), (1, .int l1)]) (st2 := [.int (Int32.ofInt 1), .ref x1]) rfl <| zx_aI hy (j := .iaload) (Or.inl ⟨rfl, rfl⟩) rfl e fun x2 _ e => zx_c0 hy rfl e (fun _ e => zt_sub (z_fc rfl (z_fn)) <| sfM_turns_19 N   l0 h _ e) (fun _ e => zl hy 2 (pc2 := 11) (lv2 := [(0, .ref l0), (1, .int l1)]) (st2 := [.int l1, .ref l0]) rfl <| zx_call hy (as := [.ref l0, .int l1]) (rest := []) (ov := (fun _ => none)) (fun _ => rfl) rfl rfl (Or.inl rfl) rfl rfl (Nat.le_of_ble_eq_true rfl) (Nat.le_of_ble_eq_true rfl) (fun _ e _ => z_rcvT (rfM_loadsRotated N l0 l1 h _ e)) (fun _ e => zt_deep (Nat.le_of_ble_eq_true rfl) (sfM_loadsRotated N l0 l1 h _ e)) e fun _ h4 _ e => zl hy 1 (pc2 := 15) (lv2 := [(0, .ref l0), (1, .int l1)]) (st2 := [.ref l0]) rfl <| zx_call hy (as := [.ref l0]) (rest := []) (ov := (fun v => some (.int v))) (fun _ => rfl) rfl rfl (Or.inl rfl) rfl rfl (Nat.le_of_ble_eq_true rfl) (Nat.le_of_ble_eq_true rfl) (fun _ e _ => z_rcvT (rfM_takes N l0 h4 _ e)) (fun _ e => zt_deep (Nat.le_of_ble_eq_true rfl) (sfM_takes N l0 h4 _ e)) e fun x5 h6 _ e => zl hy 1 (pc2 := 19) (lv2 := [(0, .ref l0), (1, .int l1)]) (st2 := []) rfl <| zt_sub (z_fc rfl (z_fn)) <| sfM_turns_19 N   l0 h6 _ e)
theorem rfM_turns (N : Nat) (l0 : Nat) (l1 : Int32) (h : zH) (r : Int32 × zH) (e : fM_turns N l0 l1 h = some r) : fT h l0 5 = true := by
  unfold fM_turns at e
  exact (cond_some e).1
/-- LyndonBenchModel.mirrors()I -/
theorem mfM_mirrors : z_me 180 zc_180 2 [] (some .int) := ⟨z_me0 rfl, rfl, rfl, rfl⟩
abbrev zC_180_12 : List zE := [(12, .iload_n 1, 1, 0, 0), (13, .aload_n 0, 1, 0, 0), (14, .getfield 66, 3, 5, 14), (17, .if_icmp .ge 30, 3, 47, 0), (20, .aload_n 0, 1, 0, 0), (21, .getfield 28, 3, 5, 8), (24, .iload_n 1, 1, 0, 0), (25, .aload_n 0, 1, 0, 0), (26, .getfield 7, 3, 5, 0), (29, .iconst 3, 1, 0, 0), (30, .aload_n 0, 1, 0, 0), (31, .getfield 66, 3, 5, 14), (34, .iadd, 1, 0, 0), (35, .iconst 1, 1, 0, 0), (36, .isub, 1, 0, 0), (37, .iload_n 1, 1, 0, 0), (38, .isub, 1, 0, 0), (39, .iaload, 1, 0, 0), (40, .iastore, 1, 0, 0), (41, .iinc 1 1, 3, 0, 0), (44, .goto (-32), 3, 12, 0), (47, .aload_n 0, 1, 0, 0), (48, .invokevirtual 102, 3, 175, 0), (51, .pop, 1, 0, 0), (52, .aload_n 0, 1, 0, 0), (53, .invokevirtual 105, 3, 160, 0), (56, .ireturn, 1, 0, 0)]
theorem mfM_mirrors_12 : z_me 180 zC_180_12 2 [] (some .int) := ⟨z_me1 (cd := zc_180) rfl (by decide +kernel), rfl, rfl, rfl⟩
abbrev zC_180_m : List zE := [(0, .aload_n 0, 1, 0, 0), (1, .aload_n 0, 1, 0, 0), (2, .getfield 7, 3, 5, 0), (5, .iconst 1, 1, 0, 0), (6, .iaload, 1, 0, 0), (7, .putfield 66, 3, 5, 14), (10, .iconst 0, 1, 0, 0), (11, .istore_n 1, 1, 0, 0)]
theorem mfM_mirrors_m : z_me 180 zC_180_m 2 [] (some .int) := ⟨z_me1 (cd := zc_180) rfl (by decide +kernel), rfl, rfl, rfl⟩
def fM_mirrors_12 (N : Nat) : Nat → Nat → Int32 → zH → Option (Int32 × zH)
  | 0, _, _, _ => none
  | n + 1, l0, l1, h => b1 (fI h l0 5 14) fun x4 => cond (z_cmp .ge l1 x4) (b2 (fM_takes N l0 h) fun x5 h6 => b2 (fM_factors N l0 h6) fun x7 h8 => some (x7, h8)) (b1 (fR h l0 5 8) fun x9 => b1 (fR h l0 5 0) fun x10 => b1 (fI h l0 5 14) fun x11 => b1 (fAI h x10 100 ((((Int32.ofInt 3) + x11) - (Int32.ofInt 1)) - l1)) fun x12 => b1 (fAS h x9 100 l1 (.int x12)) fun h13 => fM_mirrors_12 N n  l0 (l1 + Int32.ofInt 1) h13)
theorem sfM_mirrors_12 {xs : List Int32} (N : Nat)   : ∀ (n : Nat) (l0 : Nat) (l1 : Int32) (h : zH) (r : Int32 × zH), fM_mirrors_12 N n  l0 l1 h = some r → zt xs (4) 180 12 [(0, .ref l0), (1, .int l1)] [] h 0 0 (zQ cI r) := by
  have hy := mfM_mirrors_12
  intro n
  induction n with
  | zero =>
    intro l0 l1 h r e
    rw [fM_mirrors_12] at e
    cases e
  | succ n ih =>
    intro l0 l1 h r e
    rw [fM_mirrors_12] at e
    exact zl hy 2 (pc2 := 14) (lv2 := [(0, .ref l0), (1, .int l1)]) (st2 := [.ref l0, .int l1]) rfl <| zx_gI hy rfl e fun x4 _ e => zx_c hy rfl e (fun _ e => zl hy 1 (pc2 := 48) (lv2 := [(0, .ref l0), (1, .int l1)]) (st2 := [.ref l0]) rfl <| zx_call hy (as := [.ref l0]) (rest := []) (ov := (fun v => some (.int v))) (fun _ => rfl) rfl rfl (Or.inl rfl) rfl rfl (Nat.le_of_ble_eq_true rfl) (Nat.le_of_ble_eq_true rfl) (fun _ e _ => z_rcvT (rfM_takes N l0 h _ e)) (fun _ e => zt_deep (Nat.le_of_ble_eq_true rfl) (sfM_takes N l0 h _ e)) e fun x5 h6 _ e => zl hy 2 (pc2 := 53) (lv2 := [(0, .ref l0), (1, .int l1)]) (st2 := [.ref l0]) rfl <| zx_call hy (as := [.ref l0]) (rest := []) (ov := (fun v => some (.int v))) (fun _ => rfl) rfl rfl (Or.inl rfl) rfl rfl (Nat.le_of_ble_eq_true rfl) (Nat.le_of_ble_eq_true rfl) (fun _ e _ => z_rcvT (rfM_factors N l0 h6 _ e)) (fun _ e => zt_deep (Nat.le_of_ble_eq_true rfl) (sfM_factors N l0 h6 _ e)) e fun x7 h8 _ e => zx_ret hy rfl rfl rfl rfl e) (fun _ e => zl hy 1 (pc2 := 21) (lv2 := [(0, .ref l0), (1, .int l1)]) (st2 := [.ref l0]) rfl <| zx_gR hy rfl e fun x9 _ e => zl hy 2 (pc2 := 26) (lv2 := [(0, .ref l0), (1, .int l1)]) (st2 := [.ref l0, .int l1, .ref x9]) rfl <| zx_gR hy rfl e fun x10 _ e => zl hy 2 (pc2 := 31) (lv2 := [(0, .ref l0), (1, .int l1)]) (st2 := [.ref l0, .int (Int32.ofInt 3), .ref x10, .int l1, .ref x9]) rfl <| zx_gI hy rfl e fun x11 _ e => zl hy 5 (pc2 := 39) (lv2 := [(0, .ref l0), (1, .int l1)]) (st2 := [.int ((((Int32.ofInt 3) + x11) - (Int32.ofInt 1)) - l1), .ref x10, .int l1, .ref x9]) rfl <| zx_aI hy (j := .iaload) (Or.inl ⟨rfl, rfl⟩) rfl e fun x12 _ e => zx_sI hy (j := .iastore) (Or.inl ⟨rfl, rfl, rfl⟩) rfl e fun h13 _ e => zl hy 2 (pc2 := 12) (lv2 := [(1, .int (l1 + Int32.ofInt 1)), (0, .ref l0)]) (st2 := []) rfl <| zt_sub (z_fc rfl (z_fc rfl (z_fn))) <| ih l0 (l1 + Int32.ofInt 1) h13 _ e)
def fM_mirrors (N : Nat) (l0 : Nat) (h : zH) : Option (Int32 × zH) := cond (fT h l0 5) (b1 (fR h l0 5 0) fun x1 => b1 (fAI h x1 100 (Int32.ofInt 1)) fun x2 => b1 (fS h l0 5 14 (.int x2)) fun h3 => fM_mirrors_12 N N  l0 (Int32.ofInt 0) h3) none
theorem sfM_mirrors {xs : List Int32} (N : Nat) (l0 : Nat) (h : zH) (r : Int32 × zH) (e : fM_mirrors N l0 h = some r) : zt xs (4) 180 0 [(0, .ref l0)] [] h 0 0 (zQ cI r) := by
  have hy := mfM_mirrors_m
  unfold fM_mirrors at e
  replace e := (cond_some e).2
  exact zl hy 2 (pc2 := 2) (lv2 := [(0, .ref l0)]) (st2 := [.ref l0, .ref l0]) rfl <| zx_gR hy rfl e fun x1 _ e => zl hy 1 (pc2 := 6) (lv2 := [(0, .ref l0)]) (st2 := [.int (Int32.ofInt 1), .ref x1, .ref l0]) rfl <| zx_aI hy (j := .iaload) (Or.inl ⟨rfl, rfl⟩) rfl e fun x2 _ e => zx_pf hy rfl e (rfl) fun h3 _ e => zl hy 2 (pc2 := 12) (lv2 := [(1, .int (Int32.ofInt 0)), (0, .ref l0)]) (st2 := []) rfl <| zt_sub (z_fc rfl (z_fc rfl (z_fn))) <| sfM_mirrors_12 N   N l0 (Int32.ofInt 0) h3 _ e
theorem rfM_mirrors (N : Nat) (l0 : Nat) (h : zH) (r : Int32 × zH) (e : fM_mirrors N l0 h = some r) : fT h l0 5 = true := by
  unfold fM_mirrors at e
  exact (cond_some e).1
/-- LyndonBenchModel.turnsToLeast()I -/
theorem mfM_turnsToLeast : z_me 181 zc_181 2 [] (some .int) := ⟨z_me0 rfl, rfl, rfl, rfl⟩
def fM_turnsToLeast (N : Nat) (l0 : Nat) (h : zH) : Option (Int32 × zH) := cond (fT h l0 5) (b2 (fM_least N l0 h) fun x1 h2 => b2 (fM_turns N l0 x1 h2) fun x3 h4 => some (x1, h4)) none
theorem sfM_turnsToLeast {xs : List Int32} (N : Nat) (l0 : Nat) (h : zH) (r : Int32 × zH) (e : fM_turnsToLeast N l0 h = some r) : zt xs (5) 181 0 [(0, .ref l0)] [] h 0 0 (zQ cI r) := by
  have hy := mfM_turnsToLeast
  unfold fM_turnsToLeast at e
  replace e := (cond_some e).2
  exact zl hy 1 (pc2 := 1) (lv2 := [(0, .ref l0)]) (st2 := [.ref l0]) rfl <| zx_call hy (as := [.ref l0]) (rest := []) (ov := (fun v => some (.int v))) (fun _ => rfl) rfl rfl (Or.inl rfl) rfl rfl (Nat.le_of_ble_eq_true rfl) (Nat.le_of_ble_eq_true rfl) (fun _ e _ => z_rcvT (rfM_least N l0 h _ e)) (fun _ e => zt_deep (Nat.le_of_ble_eq_true rfl) (sfM_least N l0 h _ e)) e fun x1 h2 _ e => zl hy 3 (pc2 := 7) (lv2 := [(1, .int x1), (0, .ref l0)]) (st2 := [.int x1, .ref l0]) rfl <| zx_call hy (as := [.ref l0, .int x1]) (rest := []) (ov := (fun v => some (.int v))) (fun _ => rfl) rfl rfl (Or.inl rfl) rfl rfl (Nat.le_of_ble_eq_true rfl) (Nat.le_of_ble_eq_true rfl) (fun _ e _ => z_rcvT (rfM_turns N l0 x1 h2 _ e)) (fun _ e => zt_deep (Nat.le_of_ble_eq_true rfl) (sfM_turns N l0 x1 h2 _ e)) e fun x3 h4 _ e => zl hy 2 (pc2 := 12) (lv2 := [(1, .int x1), (0, .ref l0)]) (st2 := [.int x1]) rfl <| zx_ret hy rfl rfl rfl rfl e
theorem rfM_turnsToLeast (N : Nat) (l0 : Nat) (h : zH) (r : Int32 × zH) (e : fM_turnsToLeast N l0 h = some r) : fT h l0 5 = true := by
  unfold fM_turnsToLeast at e
  exact (cond_some e).1
/-- LyndonBenchModel.nexts(I)V -/
theorem mfM_nexts : z_me 182 zc_182 3 [] none := ⟨z_me0 rfl, rfl, rfl, rfl⟩
abbrev zC_182_81 : List zE := [(81, .aload_n 0, 1, 0, 0), (82, .getfield 66, 3, 5, 14), (85, .ifCond .le 18, 3, 103, 0), (88, .aload_n 0, 1, 0, 0), (89, .getfield 28, 3, 5, 8), (92, .aload_n 0, 1, 0, 0), (93, .getfield 66, 3, 5, 14), (96, .iconst 1, 1, 0, 0), (97, .isub, 1, 0, 0), (98, .dup2, 1, 0, 0), (99, .iaload, 1, 0, 0), (100, .iconst 1, 1, 0, 0), (101, .iadd, 1, 0, 0), (102, .iastore, 1, 0, 0), (103, .return_, 1, 0, 0)]
theorem mfM_nexts_81 : z_me 182 zC_182_81 3 [] none := ⟨z_me1 (cd := zc_182) rfl (by decide +kernel), rfl, rfl, rfl⟩
abbrev zC_182_39 : List zE := [(39, .aload_n 0, 1, 0, 0), (40, .getfield 66, 3, 5, 14), (43, .ifCond .le 38, 3, 81, 0), (46, .aload_n 0, 1, 0, 0), (47, .getfield 28, 3, 5, 8), (50, .aload_n 0, 1, 0, 0), (51, .getfield 66, 3, 5, 14), (54, .iconst 1, 1, 0, 0), (55, .isub, 1, 0, 0), (56, .iaload, 1, 0, 0), (57, .aload_n 0, 1, 0, 0), (58, .getfield 7, 3, 5, 0), (61, .iconst 0, 1, 0, 0), (62, .iaload, 1, 0, 0), (63, .iconst 1, 1, 0, 0), (64, .isub, 1, 0, 0), (65, .if_icmp .ne 16, 3, 81, 0), (68, .aload_n 0, 1, 0, 0), (69, .dup, 1, 0, 0), (70, .getfield 66, 3, 5, 14), (73, .iconst 1, 1, 0, 0), (74, .isub, 1, 0, 0), (75, .putfield 66, 3, 5, 14), (78, .goto (-39), 3, 39, 0)]
theorem mfM_nexts_39 : z_me 182 zC_182_39 3 [] none := ⟨z_me1 (cd := zc_182) rfl (by decide +kernel), rfl, rfl, rfl⟩
abbrev zC_182_7 : List zE := [(7, .iload_n 2, 1, 0, 0), (8, .iload_n 1, 1, 0, 0), (9, .if_icmp .ge 30, 3, 39, 0), (12, .aload_n 0, 1, 0, 0), (13, .getfield 28, 3, 5, 8), (16, .iload_n 2, 1, 0, 0), (17, .aload_n 0, 1, 0, 0), (18, .getfield 7, 3, 5, 0), (21, .iconst 3, 1, 0, 0), (22, .iload_n 2, 1, 0, 0), (23, .aload_n 0, 1, 0, 0), (24, .getfield 7, 3, 5, 0), (27, .iconst 1, 1, 0, 0), (28, .iaload, 1, 0, 0), (29, .irem, 1, 0, 0), (30, .iadd, 1, 0, 0), (31, .iaload, 1, 0, 0), (32, .iastore, 1, 0, 0), (33, .iinc 2 1, 3, 0, 0), (36, .goto (-29), 3, 7, 0)]
theorem mfM_nexts_7 : z_me 182 zC_182_7 3 [] none := ⟨z_me1 (cd := zc_182) rfl (by decide +kernel), rfl, rfl, rfl⟩
abbrev zC_182_m : List zE := [(0, .aload_n 0, 1, 0, 0), (1, .iload_n 1, 1, 0, 0), (2, .putfield 66, 3, 5, 14), (5, .iconst 0, 1, 0, 0), (6, .istore_n 2, 1, 0, 0)]
theorem mfM_nexts_m : z_me 182 zC_182_m 3 [] none := ⟨z_me1 (cd := zc_182) rfl (by decide +kernel), rfl, rfl, rfl⟩
def fM_nexts_81 (N : Nat)  (l0 : Nat) (h : zH) : Option (Unit × zH) := b1 (fI h l0 5 14) fun x3 => cond (z_cmp .le x3 (Int32.ofInt 0)) (some ((), h)) (b1 (fR h l0 5 8) fun x4 => b1 (fI h l0 5 14) fun x5 => b1 (fAI h x4 100 (x5 - (Int32.ofInt 1))) fun x6 => b1 (fAS h x4 100 (x5 - (Int32.ofInt 1)) (.int (x6 + (Int32.ofInt 1)))) fun h7 => some ((), h7))
theorem sfM_nexts_81 {xs : List Int32} (N : Nat)   (l0 : Nat) (h : zH) (r : Unit × zH) (e : fM_nexts_81 N  l0 h = some r) : zt xs (1) 182 81 [(0, .ref l0)] [] h 0 0 (zQ cV r) := by
  have hy := mfM_nexts_81
  unfold fM_nexts_81 at e
  exact zl hy 1 (pc2 := 82) (lv2 := [(0, .ref l0)]) (st2 := [.ref l0]) rfl <| zx_gI hy rfl e fun x3 _ e => zx_c0 hy rfl e (fun _ e => zx_retV hy rfl rfl e) (fun _ e => zl hy 1 (pc2 := 89) (lv2 := [(0, .ref l0)]) (st2 := [.ref l0]) rfl <| zx_gR hy rfl e fun x4 _ e => zl hy 1 (pc2 := 93) (lv2 := [(0, .ref l0)]) (st2 := [.ref l0, .ref x4]) rfl <| zx_gI hy rfl e fun x5 _ e => zl hy 3 (pc2 := 99) (lv2 := [(0, .ref l0)]) (st2 := [.int (x5 - (Int32.ofInt 1)), .ref x4, .int (x5 - (Int32.ofInt 1)), .ref x4]) rfl <| zx_aI hy (j := .iaload) (Or.inl ⟨rfl, rfl⟩) rfl e fun x6 _ e => zl hy 2 (pc2 := 102) (lv2 := [(0, .ref l0)]) (st2 := [.int (x6 + (Int32.ofInt 1)), .int (x5 - (Int32.ofInt 1)), .ref x4]) rfl <| zx_sI hy (j := .iastore) (Or.inl ⟨rfl, rfl, rfl⟩) rfl e fun h7 _ e => zx_retV hy rfl rfl e)
def fM_nexts_39 (N : Nat) : Nat → Nat → zH → Option (Unit × zH)
  | 0, _, _ => none
  | n + 1, l0, h => b1 (fI h l0 5 14) fun x2 => cond (z_cmp .le x2 (Int32.ofInt 0)) (fM_nexts_81 N  l0 h) (b1 (fR h l0 5 8) fun x3 => b1 (fI h l0 5 14) fun x4 => b1 (fAI h x3 100 (x4 - (Int32.ofInt 1))) fun x5 => b1 (fR h l0 5 0) fun x6 => b1 (fAI h x6 100 (Int32.ofInt 0)) fun x7 => cond (z_cmp .ne x5 (x7 - (Int32.ofInt 1))) (fM_nexts_81 N  l0 h) (b1 (fI h l0 5 14) fun x8 => b1 (fS h l0 5 14 (.int (x8 - (Int32.ofInt 1)))) fun h9 => fM_nexts_39 N n  l0 h9))
theorem sfM_nexts_39 {xs : List Int32} (N : Nat)   : ∀ (n : Nat) (l0 : Nat) (h : zH) (r : Unit × zH), fM_nexts_39 N n  l0 h = some r → zt xs (1) 182 39 [(0, .ref l0)] [] h 0 0 (zQ cV r) := by
  have hy := mfM_nexts_39
  intro n
  induction n with
  | zero =>
    intro l0 h r e
    rw [fM_nexts_39] at e
    cases e
  | succ n ih =>
    intro l0 h r e
    rw [fM_nexts_39] at e
    exact zl hy 1 (pc2 := 40) (lv2 := [(0, .ref l0)]) (st2 := [.ref l0]) rfl <| zx_gI hy rfl e fun x2 _ e => zx_c0 hy rfl e (fun _ e => zt_sub (z_fc rfl (z_fn)) <| sfM_nexts_81 N   l0 h _ e) (fun _ e => zl hy 1 (pc2 := 47) (lv2 := [(0, .ref l0)]) (st2 := [.ref l0]) rfl <| zx_gR hy rfl e fun x3 _ e => zl hy 1 (pc2 := 51) (lv2 := [(0, .ref l0)]) (st2 := [.ref l0, .ref x3]) rfl <| zx_gI hy rfl e fun x4 _ e => zl hy 2 (pc2 := 56) (lv2 := [(0, .ref l0)]) (st2 := [.int (x4 - (Int32.ofInt 1)), .ref x3]) rfl <| zx_aI hy (j := .iaload) (Or.inl ⟨rfl, rfl⟩) rfl e fun x5 _ e => zl hy 1 (pc2 := 58) (lv2 := [(0, .ref l0)]) (st2 := [.ref l0, .int x5]) rfl <| zx_gR hy rfl e fun x6 _ e => zl hy 1 (pc2 := 62) (lv2 := [(0, .ref l0)]) (st2 := [.int (Int32.ofInt 0), .ref x6, .int x5]) rfl <| zx_aI hy (j := .iaload) (Or.inl ⟨rfl, rfl⟩) rfl e fun x7 _ e => zl hy 2 (pc2 := 65) (lv2 := [(0, .ref l0)]) (st2 := [.int (x7 - (Int32.ofInt 1)), .int x5]) rfl <| zx_c hy rfl e (fun _ e => zt_sub (z_fc rfl (z_fn)) <| sfM_nexts_81 N   l0 h _ e) (fun _ e => zl hy 2 (pc2 := 70) (lv2 := [(0, .ref l0)]) (st2 := [.ref l0, .ref l0]) rfl <| zx_gI hy rfl e fun x8 _ e => zl hy 2 (pc2 := 75) (lv2 := [(0, .ref l0)]) (st2 := [.int (x8 - (Int32.ofInt 1)), .ref l0]) rfl <| zx_pf hy rfl e (rfl) fun h9 _ e => zl hy 1 (pc2 := 39) (lv2 := [(0, .ref l0)]) (st2 := []) rfl <| zt_sub (z_fc rfl (z_fn)) <| ih l0 h9 _ e))
def fM_nexts_7 (N : Nat) : Nat → Nat → Int32 → Int32 → zH → Option (Unit × zH)
  | 0, _, _, _, _ => none
  | n + 1, l0, l1, l2, h => cond (z_cmp .ge l2 l1) (fM_nexts_39 N N  l0 h) (b1 (fR h l0 5 8) fun x2 => b1 (fR h l0 5 0) fun x3 => b1 (fR h l0 5 0) fun x4 => b1 (fAI h x4 100 (Int32.ofInt 1)) fun x5 => (if x5 = Int32.ofInt 0 then none else b1 (fAI h x3 100 ((Int32.ofInt 3) + (l2 - l2 / x5 * x5))) fun x7 => b1 (fAS h x2 100 l2 (.int x7)) fun h8 => fM_nexts_7 N n  l0 l1 (l2 + Int32.ofInt 1) h8))
theorem sfM_nexts_7 {xs : List Int32} (N : Nat)   : ∀ (n : Nat) (l0 : Nat) (l1 : Int32) (l2 : Int32) (h : zH) (r : Unit × zH), fM_nexts_7 N n  l0 l1 l2 h = some r → zt xs (1) 182 7 [(0, .ref l0), (1, .int l1), (2, .int l2)] [] h 0 0 (zQ cV r) := by
  have hy := mfM_nexts_7
  intro n
  induction n with
  | zero =>
    intro l0 l1 l2 h r e
    rw [fM_nexts_7] at e
    cases e
  | succ n ih =>
    intro l0 l1 l2 h r e
    rw [fM_nexts_7] at e
    exact zl hy 2 (pc2 := 9) (lv2 := [(0, .ref l0), (1, .int l1), (2, .int l2)]) (st2 := [.int l1, .int l2]) rfl <| zx_c hy rfl e (fun _ e => zt_sub (z_fc rfl (z_fn)) <| sfM_nexts_39 N   N l0 h _ e) (fun _ e => zl hy 1 (pc2 := 13) (lv2 := [(0, .ref l0), (1, .int l1), (2, .int l2)]) (st2 := [.ref l0]) rfl <| zx_gR hy rfl e fun x2 _ e => zl hy 2 (pc2 := 18) (lv2 := [(0, .ref l0), (1, .int l1), (2, .int l2)]) (st2 := [.ref l0, .int l2, .ref x2]) rfl <| zx_gR hy rfl e fun x3 _ e => zl hy 3 (pc2 := 24) (lv2 := [(0, .ref l0), (1, .int l1), (2, .int l2)]) (st2 := [.ref l0, .int l2, .int (Int32.ofInt 3), .ref x3, .int l2, .ref x2]) rfl <| zx_gR hy rfl e fun x4 _ e => zl hy 1 (pc2 := 28) (lv2 := [(0, .ref l0), (1, .int l1), (2, .int l2)]) (st2 := [.int (Int32.ofInt 1), .ref x4, .int l2, .int (Int32.ofInt 3), .ref x3, .int l2, .ref x2]) rfl <| zx_aI hy (j := .iaload) (Or.inl ⟨rfl, rfl⟩) rfl e fun x5 _ e => zx_rem hy (G := fun _ => b1 (fAI h x3 100 ((Int32.ofInt 3) + (l2 - l2 / x5 * x5))) fun x7 => b1 (fAS h x2 100 l2 (.int x7)) fun h8 => fM_nexts_7 N n  l0 l1 (l2 + Int32.ofInt 1) h8) rfl e fun _ e => zl hy 1 (pc2 := 31) (lv2 := [(0, .ref l0), (1, .int l1), (2, .int l2)]) (st2 := [.int ((Int32.ofInt 3) + (l2 - l2 / x5 * x5)), .ref x3, .int l2, .ref x2]) rfl <| zx_aI hy (j := .iaload) (Or.inl ⟨rfl, rfl⟩) rfl e fun x7 _ e => zx_sI hy (j := .iastore) (Or.inl ⟨rfl, rfl, rfl⟩) rfl e fun h8 _ e => zl hy 2 (pc2 := 7) (lv2 := [(2, .int (l2 + Int32.ofInt 1)), (0, .ref l0), (1, .int l1)]) (st2 := []) rfl <| zt_sub (z_fc rfl (z_fc rfl (z_fc rfl (z_fn)))) <| ih l0 l1 (l2 + Int32.ofInt 1) h8 _ e)
def fM_nexts (N : Nat) (l0 : Nat) (l1 : Int32) (h : zH) : Option (Unit × zH) := cond (fT h l0 5) (b1 (fS h l0 5 14 (.int l1)) fun h1 => fM_nexts_7 N N  l0 l1 (Int32.ofInt 0) h1) none
theorem sfM_nexts {xs : List Int32} (N : Nat) (l0 : Nat) (l1 : Int32) (h : zH) (r : Unit × zH) (e : fM_nexts N l0 l1 h = some r) : zt xs (1) 182 0 [(0, .ref l0), (1, .int l1)] [] h 0 0 (zQ cV r) := by
  have hy := mfM_nexts_m
  unfold fM_nexts at e
  replace e := (cond_some e).2
  exact zl hy 2 (pc2 := 2) (lv2 := [(0, .ref l0), (1, .int l1)]) (st2 := [.int l1, .ref l0]) rfl <| zx_pf hy rfl e (rfl) fun h1 _ e => zl hy 2 (pc2 := 7) (lv2 := [(2, .int (Int32.ofInt 0)), (0, .ref l0), (1, .int l1)]) (st2 := []) rfl <| zt_sub (z_fc rfl (z_fc rfl (z_fc rfl (z_fn)))) <| sfM_nexts_7 N   N l0 l1 (Int32.ofInt 0) h1 _ e
theorem rfM_nexts (N : Nat) (l0 : Nat) (l1 : Int32) (h : zH) (r : Unit × zH) (e : fM_nexts N l0 l1 h = some r) : fT h l0 5 = true := by
  unfold fM_nexts at e
  exact (cond_some e).1
end
section
/-! F functions, by program. -/
/-- LyndonBenchModel.hasNext(I)Z -/
theorem mfM_hasNext : z_me 183 zc_183 2 [] (some .boolean) := ⟨z_me0 rfl, rfl, rfl, rfl⟩
abbrev zC_183_17 : List zE := [(17, .iconst 0, 1, 0, 0), (18, .ireturn, 1, 0, 0)]
theorem mfM_hasNext_17 : z_me 183 zC_183_17 2 [] (some .boolean) := ⟨z_me1 (cd := zc_183) rfl (by decide +kernel), rfl, rfl, rfl⟩
abbrev zC_183_36 : List zE := [(36, .ireturn, 1, 0, 0)]
theorem mfM_hasNext_36 : z_me 183 zC_183_36 2 [] (some .boolean) := ⟨z_me1 (cd := zc_183) rfl (by decide +kernel), rfl, rfl, rfl⟩
abbrev zC_183_m : List zE := [(0, .aload_n 0, 1, 0, 0), (1, .invokevirtual 117, 3, 165, 0), (4, .ifCond .ne 13, 3, 17, 0), (7, .aload_n 0, 1, 0, 0), (8, .getfield 7, 3, 5, 0), (11, .iconst 1, 1, 0, 0), (12, .iaload, 1, 0, 0), (13, .iload_n 1, 1, 0, 0), (14, .if_icmp .le 5, 3, 19, 0), (19, .aload_n 0, 1, 0, 0), (20, .iload_n 1, 1, 0, 0), (21, .invokevirtual 120, 3, 182, 1), (24, .aload_n 0, 1, 0, 0), (25, .getfield 66, 3, 5, 14), (28, .ifCond .le 7, 3, 35, 0), (31, .iconst 1, 1, 0, 0), (32, .goto 4, 3, 36, 0), (35, .iconst 0, 1, 0, 0)]
theorem mfM_hasNext_m : z_me 183 zC_183_m 2 [] (some .boolean) := ⟨z_me1 (cd := zc_183) rfl (by decide +kernel), rfl, rfl, rfl⟩
def fM_hasNext_17 (N : Nat)   (h : zH) : Option (Int32 × zH) := some ((Int32.ofInt 0), h)
theorem sfM_hasNext_17 {xs : List Int32} (N : Nat)    (h : zH) (r : Int32 × zH) (e : fM_hasNext_17 N   h = some r) : zt xs (4) 183 17 [] [] h 0 0 (zQ cI r) := by
  have hy := mfM_hasNext_17
  unfold fM_hasNext_17 at e
  exact zl hy 1 (pc2 := 18) (lv2 := []) (st2 := [.int (Int32.ofInt 0)]) rfl <| zx_ret hy (v := .int (Int32.ofInt 0)) rfl rfl (by decide) rfl e
def fM_hasNext_36 (N : Nat)  (s0 : Int32) (h : zH) : Option (Int32 × zH) := cond (decide (s0 = Int32.ofInt 0) || decide (s0 = Int32.ofInt 1)) (some (s0, h)) none
theorem sfM_hasNext_36 {xs : List Int32} (N : Nat)   (s0 : Int32) (h : zH) (r : Int32 × zH) (e : fM_hasNext_36 N  s0 h = some r) : zt xs (4) 183 36 [] [.int s0] h 0 0 (zQ cI r) := by
  have hy := mfM_hasNext_36
  unfold fM_hasNext_36 at e
  exact zx_retB hy rfl rfl e
def fM_hasNext (N : Nat) (l0 : Nat) (l1 : Int32) (h : zH) : Option (Int32 × zH) := cond (fT h l0 5) (b2 (fM_why N l0 h) fun x1 h2 => cond (z_cmp .ne x1 (Int32.ofInt 0)) (fM_hasNext_17 N   h2) (b1 (fR h2 l0 5 0) fun x3 => b1 (fAI h2 x3 100 (Int32.ofInt 1)) fun x4 => cond (z_cmp .le x4 l1) (b2 (fM_nexts N l0 l1 h2) fun _ h6 => b1 (fI h6 l0 5 14) fun x7 => cond (z_cmp .le x7 (Int32.ofInt 0)) (fM_hasNext_36 N  (Int32.ofInt 0) h6) (fM_hasNext_36 N  (Int32.ofInt 1) h6)) (fM_hasNext_17 N   h2))) none
theorem sfM_hasNext {xs : List Int32} (N : Nat) (l0 : Nat) (l1 : Int32) (h : zH) (r : Int32 × zH) (e : fM_hasNext N l0 l1 h = some r) : zt xs (4) 183 0 [(0, .ref l0), (1, .int l1)] [] h 0 0 (zQ cI r) := by
  have hy := mfM_hasNext_m
  unfold fM_hasNext at e
  replace e := (cond_some e).2
  exact zl hy 1 (pc2 := 1) (lv2 := [(0, .ref l0), (1, .int l1)]) (st2 := [.ref l0]) rfl <| zx_call hy (as := [.ref l0]) (rest := []) (ov := (fun v => some (.int v))) (fun _ => rfl) rfl rfl (Or.inl rfl) rfl rfl (Nat.le_of_ble_eq_true rfl) (Nat.le_of_ble_eq_true rfl) (fun _ e _ => z_rcvT (rfM_why N l0 h _ e)) (fun _ e => zt_deep (Nat.le_of_ble_eq_true rfl) (sfM_why N l0 h _ e)) e fun x1 h2 _ e => zx_c0 hy rfl e (fun _ e => zt_sub (z_fn) <| sfM_hasNext_17 N    h2 _ e) (fun _ e => zl hy 1 (pc2 := 8) (lv2 := [(0, .ref l0), (1, .int l1)]) (st2 := [.ref l0]) rfl <| zx_gR hy rfl e fun x3 _ e => zl hy 1 (pc2 := 12) (lv2 := [(0, .ref l0), (1, .int l1)]) (st2 := [.int (Int32.ofInt 1), .ref x3]) rfl <| zx_aI hy (j := .iaload) (Or.inl ⟨rfl, rfl⟩) rfl e fun x4 _ e => zl hy 1 (pc2 := 14) (lv2 := [(0, .ref l0), (1, .int l1)]) (st2 := [.int l1, .int x4]) rfl <| zx_c hy rfl e (fun _ e => zl hy 2 (pc2 := 21) (lv2 := [(0, .ref l0), (1, .int l1)]) (st2 := [.int l1, .ref l0]) rfl <| zx_call hy (as := [.ref l0, .int l1]) (rest := []) (ov := (fun _ => none)) (fun _ => rfl) rfl rfl (Or.inl rfl) rfl rfl (Nat.le_of_ble_eq_true rfl) (Nat.le_of_ble_eq_true rfl) (fun _ e _ => z_rcvT (rfM_nexts N l0 l1 h2 _ e)) (fun _ e => zt_deep (Nat.le_of_ble_eq_true rfl) (sfM_nexts N l0 l1 h2 _ e)) e fun _ h6 _ e => zl hy 1 (pc2 := 25) (lv2 := [(0, .ref l0), (1, .int l1)]) (st2 := [.ref l0]) rfl <| zx_gI hy rfl e fun x7 _ e => zx_c0 hy rfl e (fun _ e => zl hy 1 (pc2 := 36) (lv2 := [(0, .ref l0), (1, .int l1)]) (st2 := [.int (Int32.ofInt 0)]) rfl <| zt_sub (z_fn) <| sfM_hasNext_36 N   (Int32.ofInt 0) h6 _ e) (fun _ e => zl hy 2 (pc2 := 36) (lv2 := [(0, .ref l0), (1, .int l1)]) (st2 := [.int (Int32.ofInt 1)]) rfl <| zt_sub (z_fn) <| sfM_hasNext_36 N   (Int32.ofInt 1) h6 _ e)) (fun _ e => zt_sub (z_fn) <| sfM_hasNext_17 N    h2 _ e))
theorem rfM_hasNext (N : Nat) (l0 : Nat) (l1 : Int32) (h : zH) (r : Int32 × zH) (e : fM_hasNext N l0 l1 h = some r) : fT h l0 5 = true := by
  unfold fM_hasNext at e
  exact (cond_some e).1
/-- LyndonBenchModel.goesOn(I)I -/
theorem mfM_goesOn : z_me 184 zc_184 2 [] (some .int) := ⟨z_me0 rfl, rfl, rfl, rfl⟩
def fM_goesOn (N : Nat) (l0 : Nat) (l1 : Int32) (h : zH) : Option (Int32 × zH) := cond (fT h l0 5) (b2 (fM_nexts N l0 l1 h) fun _ h2 => b2 (fM_takes N l0 h2) fun x3 h4 => some (x3, h4)) none
theorem sfM_goesOn {xs : List Int32} (N : Nat) (l0 : Nat) (l1 : Int32) (h : zH) (r : Int32 × zH) (e : fM_goesOn N l0 l1 h = some r) : zt xs (2) 184 0 [(0, .ref l0), (1, .int l1)] [] h 0 0 (zQ cI r) := by
  have hy := mfM_goesOn
  unfold fM_goesOn at e
  replace e := (cond_some e).2
  exact zl hy 2 (pc2 := 2) (lv2 := [(0, .ref l0), (1, .int l1)]) (st2 := [.int l1, .ref l0]) rfl <| zx_call hy (as := [.ref l0, .int l1]) (rest := []) (ov := (fun _ => none)) (fun _ => rfl) rfl rfl (Or.inl rfl) rfl rfl (Nat.le_of_ble_eq_true rfl) (Nat.le_of_ble_eq_true rfl) (fun _ e _ => z_rcvT (rfM_nexts N l0 l1 h _ e)) (fun _ e => zt_deep (Nat.le_of_ble_eq_true rfl) (sfM_nexts N l0 l1 h _ e)) e fun _ h2 _ e => zl hy 1 (pc2 := 6) (lv2 := [(0, .ref l0), (1, .int l1)]) (st2 := [.ref l0]) rfl <| zx_call hy (as := [.ref l0]) (rest := []) (ov := (fun v => some (.int v))) (fun _ => rfl) rfl rfl (Or.inl rfl) rfl rfl (Nat.le_of_ble_eq_true rfl) (Nat.le_of_ble_eq_true rfl) (fun _ e _ => z_rcvT (rfM_takes N l0 h2 _ e)) (fun _ e => zt_deep (Nat.le_of_ble_eq_true rfl) (sfM_takes N l0 h2 _ e)) e fun x3 h4 _ e => zx_ret hy rfl rfl rfl rfl e
theorem rfM_goesOn (N : Nat) (l0 : Nat) (l1 : Int32) (h : zH) (r : Int32 × zH) (e : fM_goesOn N l0 l1 h = some r) : fT h l0 5 = true := by
  unfold fM_goesOn at e
  exact (cond_some e).1
/-- LyndonBenchModel.shelves(II)I -/
theorem mfM_shelves : z_me 185 zc_185 5 [] (some .int) := ⟨z_me0 rfl, rfl, rfl, rfl⟩
abbrev zC_185_32 : List zE := [(32, .iload 4, 2, 0, 0), (34, .iload_n 2, 1, 0, 0), (35, .if_icmp .ge 29, 3, 64, 0), (38, .aload_n 0, 1, 0, 0), (39, .getfield 7, 3, 5, 0), (42, .iload_n 3, 1, 0, 0), (43, .iload 4, 2, 0, 0), (45, .iadd, 1, 0, 0), (46, .aload_n 0, 1, 0, 0), (47, .getfield 7, 3, 5, 0), (50, .iconst 3, 1, 0, 0), (51, .iload_n 1, 1, 0, 0), (52, .iadd, 1, 0, 0), (53, .iload 4, 2, 0, 0), (55, .iadd, 1, 0, 0), (56, .iaload, 1, 0, 0), (57, .iastore, 1, 0, 0), (58, .iinc 4 1, 3, 0, 0), (61, .goto (-29), 3, 32, 0), (64, .aload_n 0, 1, 0, 0), (65, .getfield 7, 3, 5, 0), (68, .iconst 2, 1, 0, 0), (69, .dup2, 1, 0, 0), (70, .iaload, 1, 0, 0), (71, .iconst 1, 1, 0, 0), (72, .iadd, 1, 0, 0), (73, .iastore, 1, 0, 0), (74, .aload_n 0, 1, 0, 0), (75, .getfield 7, 3, 5, 0), (78, .iconst 2, 1, 0, 0), (79, .iaload, 1, 0, 0), (80, .ireturn, 1, 0, 0)]
theorem mfM_shelves_32 : z_me 185 zC_185_32 5 [] (some .int) := ⟨z_me1 (cd := zc_185) rfl (by decide +kernel), rfl, rfl, rfl⟩
abbrev zC_185_m : List zE := [(0, .sipush 131, 3, 0, 0), (3, .bipush 40, 2, 0, 0), (5, .aload_n 0, 1, 0, 0), (6, .getfield 7, 3, 5, 0), (9, .iconst 2, 1, 0, 0), (10, .iaload, 1, 0, 0), (11, .imul, 1, 0, 0), (12, .iadd, 1, 0, 0), (13, .istore_n 3, 1, 0, 0), (14, .aload_n 0, 1, 0, 0), (15, .getfield 7, 3, 5, 0), (18, .bipush 123, 2, 0, 0), (20, .aload_n 0, 1, 0, 0), (21, .getfield 7, 3, 5, 0), (24, .iconst 2, 1, 0, 0), (25, .iaload, 1, 0, 0), (26, .iadd, 1, 0, 0), (27, .iload_n 2, 1, 0, 0), (28, .iastore, 1, 0, 0), (29, .iconst 0, 1, 0, 0), (30, .istore 4, 2, 0, 0)]
theorem mfM_shelves_m : z_me 185 zC_185_m 5 [] (some .int) := ⟨z_me1 (cd := zc_185) rfl (by decide +kernel), rfl, rfl, rfl⟩
def fM_shelves_32 (N : Nat) : Nat → Nat → Int32 → Int32 → Int32 → Int32 → zH → Option (Int32 × zH)
  | 0, _, _, _, _, _, _ => none
  | n + 1, l0, l1, l2, l3, l4, h => cond (z_cmp .ge l4 l2) (b1 (fR h l0 5 0) fun x7 => b1 (fAI h x7 100 (Int32.ofInt 2)) fun x8 => b1 (fAS h x7 100 (Int32.ofInt 2) (.int (x8 + (Int32.ofInt 1)))) fun h9 => b1 (fR h9 l0 5 0) fun x10 => b1 (fAI h9 x10 100 (Int32.ofInt 2)) fun x11 => some (x11, h9)) (b1 (fR h l0 5 0) fun x12 => b1 (fR h l0 5 0) fun x13 => b1 (fAI h x13 100 (((Int32.ofInt 3) + l1) + l4)) fun x14 => b1 (fAS h x12 100 (l3 + l4) (.int x14)) fun h15 => fM_shelves_32 N n  l0 l1 l2 l3 (l4 + Int32.ofInt 1) h15)
theorem sfM_shelves_32 {xs : List Int32} (N : Nat)   : ∀ (n : Nat) (l0 : Nat) (l1 : Int32) (l2 : Int32) (l3 : Int32) (l4 : Int32) (h : zH) (r : Int32 × zH), fM_shelves_32 N n  l0 l1 l2 l3 l4 h = some r → zt xs (1) 185 32 [(0, .ref l0), (1, .int l1), (2, .int l2), (3, .int l3), (4, .int l4)] [] h 0 0 (zQ cI r) := by
  have hy := mfM_shelves_32
  intro n
  induction n with
  | zero =>
    intro l0 l1 l2 l3 l4 h r e
    rw [fM_shelves_32] at e
    cases e
  | succ n ih =>
    intro l0 l1 l2 l3 l4 h r e
    rw [fM_shelves_32] at e
    exact zl hy 2 (pc2 := 35) (lv2 := [(0, .ref l0), (1, .int l1), (2, .int l2), (3, .int l3), (4, .int l4)]) (st2 := [.int l2, .int l4]) rfl <| zx_c hy rfl e (fun _ e => zl hy 1 (pc2 := 65) (lv2 := [(0, .ref l0), (1, .int l1), (2, .int l2), (3, .int l3), (4, .int l4)]) (st2 := [.ref l0]) rfl <| zx_gR hy rfl e fun x7 _ e => zl hy 2 (pc2 := 70) (lv2 := [(0, .ref l0), (1, .int l1), (2, .int l2), (3, .int l3), (4, .int l4)]) (st2 := [.int (Int32.ofInt 2), .ref x7, .int (Int32.ofInt 2), .ref x7]) rfl <| zx_aI hy (j := .iaload) (Or.inl ⟨rfl, rfl⟩) rfl e fun x8 _ e => zl hy 2 (pc2 := 73) (lv2 := [(0, .ref l0), (1, .int l1), (2, .int l2), (3, .int l3), (4, .int l4)]) (st2 := [.int (x8 + (Int32.ofInt 1)), .int (Int32.ofInt 2), .ref x7]) rfl <| zx_sI hy (j := .iastore) (Or.inl ⟨rfl, rfl, rfl⟩) rfl e fun h9 _ e => zl hy 1 (pc2 := 75) (lv2 := [(0, .ref l0), (1, .int l1), (2, .int l2), (3, .int l3), (4, .int l4)]) (st2 := [.ref l0]) rfl <| zx_gR hy rfl e fun x10 _ e => zl hy 1 (pc2 := 79) (lv2 := [(0, .ref l0), (1, .int l1), (2, .int l2), (3, .int l3), (4, .int l4)]) (st2 := [.int (Int32.ofInt 2), .ref x10]) rfl <| zx_aI hy (j := .iaload) (Or.inl ⟨rfl, rfl⟩) rfl e fun x11 _ e => zx_ret hy rfl rfl rfl rfl e) (fun _ e => zl hy 1 (pc2 := 39) (lv2 := [(0, .ref l0), (1, .int l1), (2, .int l2), (3, .int l3), (4, .int l4)]) (st2 := [.ref l0]) rfl <| zx_gR hy rfl e fun x12 _ e => zl hy 4 (pc2 := 47) (lv2 := [(0, .ref l0), (1, .int l1), (2, .int l2), (3, .int l3), (4, .int l4)]) (st2 := [.ref l0, .int (l3 + l4), .ref x12]) rfl <| zx_gR hy rfl e fun x13 _ e => zl hy 5 (pc2 := 56) (lv2 := [(0, .ref l0), (1, .int l1), (2, .int l2), (3, .int l3), (4, .int l4)]) (st2 := [.int (((Int32.ofInt 3) + l1) + l4), .ref x13, .int (l3 + l4), .ref x12]) rfl <| zx_aI hy (j := .iaload) (Or.inl ⟨rfl, rfl⟩) rfl e fun x14 _ e => zx_sI hy (j := .iastore) (Or.inl ⟨rfl, rfl, rfl⟩) rfl e fun h15 _ e => zl hy 2 (pc2 := 32) (lv2 := [(4, .int (l4 + Int32.ofInt 1)), (0, .ref l0), (1, .int l1), (2, .int l2), (3, .int l3)]) (st2 := []) rfl <| zt_sub (z_fc rfl (z_fc rfl (z_fc rfl (z_fc rfl (z_fc rfl (z_fn)))))) <| ih l0 l1 l2 l3 (l4 + Int32.ofInt 1) h15 _ e)
def fM_shelves (N : Nat) (l0 : Nat) (l1 : Int32) (l2 : Int32) (h : zH) : Option (Int32 × zH) := cond (fT h l0 5) (b1 (fR h l0 5 0) fun x1 => b1 (fAI h x1 100 (Int32.ofInt 2)) fun x2 => b1 (fR h l0 5 0) fun x3 => b1 (fR h l0 5 0) fun x4 => b1 (fAI h x4 100 (Int32.ofInt 2)) fun x5 => b1 (fAS h x3 100 ((Int32.ofInt 123) + x5) (.int l2)) fun h6 => fM_shelves_32 N N  l0 l1 l2 ((Int32.ofInt 131) + ((Int32.ofInt 40) * x2)) (Int32.ofInt 0) h6) none
theorem sfM_shelves {xs : List Int32} (N : Nat) (l0 : Nat) (l1 : Int32) (l2 : Int32) (h : zH) (r : Int32 × zH) (e : fM_shelves N l0 l1 l2 h = some r) : zt xs (1) 185 0 [(0, .ref l0), (1, .int l1), (2, .int l2)] [] h 0 0 (zQ cI r) := by
  have hy := mfM_shelves_m
  unfold fM_shelves at e
  replace e := (cond_some e).2
  exact zx_sip hy (c := 131) rfl (by decide) <| zx_bip hy (c := 40) rfl (by decide) <| zl hy 1 (pc2 := 6) (lv2 := [(0, .ref l0), (1, .int l1), (2, .int l2)]) (st2 := [.ref l0, .int (Int32.ofInt 40), .int (Int32.ofInt 131)]) rfl <| zx_gR hy rfl e fun x1 _ e => zl hy 1 (pc2 := 10) (lv2 := [(0, .ref l0), (1, .int l1), (2, .int l2)]) (st2 := [.int (Int32.ofInt 2), .ref x1, .int (Int32.ofInt 40), .int (Int32.ofInt 131)]) rfl <| zx_aI hy (j := .iaload) (Or.inl ⟨rfl, rfl⟩) rfl e fun x2 _ e => zl hy 4 (pc2 := 15) (lv2 := [(3, .int ((Int32.ofInt 131) + ((Int32.ofInt 40) * x2))), (0, .ref l0), (1, .int l1), (2, .int l2)]) (st2 := [.ref l0]) rfl <| zx_gR hy rfl e fun x3 _ e => zx_bip hy (c := 123) rfl (by decide) <| zl hy 1 (pc2 := 21) (lv2 := [(3, .int ((Int32.ofInt 131) + ((Int32.ofInt 40) * x2))), (0, .ref l0), (1, .int l1), (2, .int l2)]) (st2 := [.ref l0, .int (Int32.ofInt 123), .ref x3]) rfl <| zx_gR hy rfl e fun x4 _ e => zl hy 1 (pc2 := 25) (lv2 := [(3, .int ((Int32.ofInt 131) + ((Int32.ofInt 40) * x2))), (0, .ref l0), (1, .int l1), (2, .int l2)]) (st2 := [.int (Int32.ofInt 2), .ref x4, .int (Int32.ofInt 123), .ref x3]) rfl <| zx_aI hy (j := .iaload) (Or.inl ⟨rfl, rfl⟩) rfl e fun x5 _ e => zl hy 2 (pc2 := 28) (lv2 := [(3, .int ((Int32.ofInt 131) + ((Int32.ofInt 40) * x2))), (0, .ref l0), (1, .int l1), (2, .int l2)]) (st2 := [.int l2, .int ((Int32.ofInt 123) + x5), .ref x3]) rfl <| zx_sI hy (j := .iastore) (Or.inl ⟨rfl, rfl, rfl⟩) rfl e fun h6 _ e => zl hy 2 (pc2 := 32) (lv2 := [(4, .int (Int32.ofInt 0)), (3, .int ((Int32.ofInt 131) + ((Int32.ofInt 40) * x2))), (0, .ref l0), (1, .int l1), (2, .int l2)]) (st2 := []) rfl <| zt_sub (z_fc rfl (z_fc rfl (z_fc rfl (z_fc rfl (z_fc rfl (z_fn)))))) <| sfM_shelves_32 N   N l0 l1 l2 ((Int32.ofInt 131) + ((Int32.ofInt 40) * x2)) (Int32.ofInt 0) h6 _ e
theorem rfM_shelves (N : Nat) (l0 : Nat) (l1 : Int32) (l2 : Int32) (h : zH) (r : Int32 × zH) (e : fM_shelves N l0 l1 l2 h = some r) : fT h l0 5 = true := by
  unfold fM_shelves at e
  exact (cond_some e).1
/-- LyndonBenchModel.canKeepFactor(I)Z -/
theorem mfM_canKeepFactor : z_me 186 zc_186 2 [] (some .boolean) := ⟨z_me0 rfl, rfl, rfl, rfl⟩
abbrev zC_186_36 : List zE := [(36, .ireturn, 1, 0, 0)]
theorem mfM_canKeepFactor_36 : z_me 186 zC_186_36 2 [] (some .boolean) := ⟨z_me1 (cd := zc_186) rfl (by decide +kernel), rfl, rfl, rfl⟩
abbrev zC_186_35 : List zE := [(35, .iconst 0, 1, 0, 0)]
theorem mfM_canKeepFactor_35 : z_me 186 zC_186_35 2 [] (some .boolean) := ⟨z_me1 (cd := zc_186) rfl (by decide +kernel), rfl, rfl, rfl⟩
abbrev zC_186_m : List zE := [(0, .aload_n 0, 1, 0, 0), (1, .getfield 7, 3, 5, 0), (4, .iconst 2, 1, 0, 0), (5, .iaload, 1, 0, 0), (6, .bipush 8, 2, 0, 0), (8, .if_icmp .ge 27, 3, 35, 0), (11, .aload_n 0, 1, 0, 0), (12, .getfield 31, 3, 5, 9), (15, .iload_n 1, 1, 0, 0), (16, .iconst 1, 1, 0, 0), (17, .iadd, 1, 0, 0), (18, .iaload, 1, 0, 0), (19, .aload_n 0, 1, 0, 0), (20, .getfield 31, 3, 5, 9), (23, .iload_n 1, 1, 0, 0), (24, .iaload, 1, 0, 0), (25, .isub, 1, 0, 0), (26, .bipush 40, 2, 0, 0), (28, .if_icmp .gt 7, 3, 35, 0), (31, .iconst 1, 1, 0, 0), (32, .goto 4, 3, 36, 0)]
theorem mfM_canKeepFactor_m : z_me 186 zC_186_m 2 [] (some .boolean) := ⟨z_me1 (cd := zc_186) rfl (by decide +kernel), rfl, rfl, rfl⟩
def fM_canKeepFactor_36 (N : Nat)  (s0 : Int32) (h : zH) : Option (Int32 × zH) := cond (decide (s0 = Int32.ofInt 0) || decide (s0 = Int32.ofInt 1)) (some (s0, h)) none
theorem sfM_canKeepFactor_36 {xs : List Int32} (N : Nat)   (s0 : Int32) (h : zH) (r : Int32 × zH) (e : fM_canKeepFactor_36 N  s0 h = some r) : zt xs (1) 186 36 [] [.int s0] h 0 0 (zQ cI r) := by
  have hy := mfM_canKeepFactor_36
  unfold fM_canKeepFactor_36 at e
  exact zx_retB hy rfl rfl e
def fM_canKeepFactor_35 (N : Nat)   (h : zH) : Option (Int32 × zH) := fM_canKeepFactor_36 N  (Int32.ofInt 0) h
theorem sfM_canKeepFactor_35 {xs : List Int32} (N : Nat)    (h : zH) (r : Int32 × zH) (e : fM_canKeepFactor_35 N   h = some r) : zt xs (1) 186 35 [] [] h 0 0 (zQ cI r) := by
  have hy := mfM_canKeepFactor_35
  unfold fM_canKeepFactor_35 at e
  exact zl hy 1 (pc2 := 36) (lv2 := []) (st2 := [.int (Int32.ofInt 0)]) rfl <| zt_sub (z_fn) <| sfM_canKeepFactor_36 N   (Int32.ofInt 0) h _ e
def fM_canKeepFactor (N : Nat) (l0 : Nat) (l1 : Int32) (h : zH) : Option (Int32 × zH) := cond (fT h l0 5) (b1 (fR h l0 5 0) fun x1 => b1 (fAI h x1 100 (Int32.ofInt 2)) fun x2 => cond (z_cmp .ge x2 (Int32.ofInt 8)) (fM_canKeepFactor_35 N   h) (b1 (fR h l0 5 9) fun x3 => b1 (fAI h x3 100 (l1 + (Int32.ofInt 1))) fun x4 => b1 (fR h l0 5 9) fun x5 => b1 (fAI h x5 100 l1) fun x6 => cond (z_cmp .gt (x4 - x6) (Int32.ofInt 40)) (fM_canKeepFactor_35 N   h) (fM_canKeepFactor_36 N  (Int32.ofInt 1) h))) none
theorem sfM_canKeepFactor {xs : List Int32} (N : Nat) (l0 : Nat) (l1 : Int32) (h : zH) (r : Int32 × zH) (e : fM_canKeepFactor N l0 l1 h = some r) : zt xs (1) 186 0 [(0, .ref l0), (1, .int l1)] [] h 0 0 (zQ cI r) := by
  have hy := mfM_canKeepFactor_m
  unfold fM_canKeepFactor at e
  replace e := (cond_some e).2
  exact zl hy 1 (pc2 := 1) (lv2 := [(0, .ref l0), (1, .int l1)]) (st2 := [.ref l0]) rfl <| zx_gR hy rfl e fun x1 _ e => zl hy 1 (pc2 := 5) (lv2 := [(0, .ref l0), (1, .int l1)]) (st2 := [.int (Int32.ofInt 2), .ref x1]) rfl <| zx_aI hy (j := .iaload) (Or.inl ⟨rfl, rfl⟩) rfl e fun x2 _ e => zx_bip hy (c := 8) rfl (by decide) <| zx_c hy rfl e (fun _ e => zt_sub (z_fn) <| sfM_canKeepFactor_35 N    h _ e) (fun _ e => zl hy 1 (pc2 := 12) (lv2 := [(0, .ref l0), (1, .int l1)]) (st2 := [.ref l0]) rfl <| zx_gR hy rfl e fun x3 _ e => zl hy 3 (pc2 := 18) (lv2 := [(0, .ref l0), (1, .int l1)]) (st2 := [.int (l1 + (Int32.ofInt 1)), .ref x3]) rfl <| zx_aI hy (j := .iaload) (Or.inl ⟨rfl, rfl⟩) rfl e fun x4 _ e => zl hy 1 (pc2 := 20) (lv2 := [(0, .ref l0), (1, .int l1)]) (st2 := [.ref l0, .int x4]) rfl <| zx_gR hy rfl e fun x5 _ e => zl hy 1 (pc2 := 24) (lv2 := [(0, .ref l0), (1, .int l1)]) (st2 := [.int l1, .ref x5, .int x4]) rfl <| zx_aI hy (j := .iaload) (Or.inl ⟨rfl, rfl⟩) rfl e fun x6 _ e => zl hy 1 (pc2 := 26) (lv2 := [(0, .ref l0), (1, .int l1)]) (st2 := [.int (x4 - x6)]) rfl <| zx_bip hy (c := 40) rfl (by decide) <| zx_c hy rfl e (fun _ e => zt_sub (z_fn) <| sfM_canKeepFactor_35 N    h _ e) (fun _ e => zl hy 2 (pc2 := 36) (lv2 := [(0, .ref l0), (1, .int l1)]) (st2 := [.int (Int32.ofInt 1)]) rfl <| zt_sub (z_fn) <| sfM_canKeepFactor_36 N   (Int32.ofInt 1) h _ e))
theorem rfM_canKeepFactor (N : Nat) (l0 : Nat) (l1 : Int32) (h : zH) (r : Int32 × zH) (e : fM_canKeepFactor N l0 l1 h = some r) : fT h l0 5 = true := by
  unfold fM_canKeepFactor at e
  exact (cond_some e).1
/-- LyndonBenchModel.canKeepText()Z -/
theorem mfM_canKeepText : z_me 187 zc_187 1 [] (some .boolean) := ⟨z_me0 rfl, rfl, rfl, rfl⟩
def fM_canKeepText_31 (N : Nat)  (s0 : Int32) (h : zH) : Option (Int32 × zH) := cond (decide (s0 = Int32.ofInt 0) || decide (s0 = Int32.ofInt 1)) (some (s0, h)) none
theorem sfM_canKeepText_31 {xs : List Int32} (N : Nat)   (s0 : Int32) (h : zH) (r : Int32 × zH) (e : fM_canKeepText_31 N  s0 h = some r) : zt xs (2) 187 31 [] [.int s0] h 0 0 (zQ cI r) := by
  have hy := mfM_canKeepText
  unfold fM_canKeepText_31 at e
  exact zx_retB hy rfl rfl e
def fM_canKeepText_30 (N : Nat)   (h : zH) : Option (Int32 × zH) := fM_canKeepText_31 N  (Int32.ofInt 0) h
theorem sfM_canKeepText_30 {xs : List Int32} (N : Nat)    (h : zH) (r : Int32 × zH) (e : fM_canKeepText_30 N   h = some r) : zt xs (2) 187 30 [] [] h 0 0 (zQ cI r) := by
  have hy := mfM_canKeepText
  unfold fM_canKeepText_30 at e
  exact zl hy 1 (pc2 := 31) (lv2 := []) (st2 := [.int (Int32.ofInt 0)]) rfl <| zt_sub (z_fn) <| sfM_canKeepText_31 N   (Int32.ofInt 0) h _ e
def fM_canKeepText (N : Nat) (l0 : Nat) (h : zH) : Option (Int32 × zH) := cond (fT h l0 5) (b1 (fR h l0 5 0) fun x1 => b1 (fAI h x1 100 (Int32.ofInt 2)) fun x2 => cond (z_cmp .ge x2 (Int32.ofInt 8)) (fM_canKeepText_30 N   h) (b1 (fR h l0 5 0) fun x3 => b1 (fAI h x3 100 (Int32.ofInt 1)) fun x4 => b2 (fM_in N x4 (Int32.ofInt 1) (Int32.ofInt 40) h) fun x5 h6 => cond (z_cmp .eq x5 (Int32.ofInt 0)) (fM_canKeepText_30 N   h6) (fM_canKeepText_31 N  (Int32.ofInt 1) h6))) none
theorem sfM_canKeepText {xs : List Int32} (N : Nat) (l0 : Nat) (h : zH) (r : Int32 × zH) (e : fM_canKeepText N l0 h = some r) : zt xs (2) 187 0 [(0, .ref l0)] [] h 0 0 (zQ cI r) := by
  have hy := mfM_canKeepText
  unfold fM_canKeepText at e
  replace e := (cond_some e).2
  exact zl hy 1 (pc2 := 1) (lv2 := [(0, .ref l0)]) (st2 := [.ref l0]) rfl <| zx_gR hy rfl e fun x1 _ e => zl hy 1 (pc2 := 5) (lv2 := [(0, .ref l0)]) (st2 := [.int (Int32.ofInt 2), .ref x1]) rfl <| zx_aI hy (j := .iaload) (Or.inl ⟨rfl, rfl⟩) rfl e fun x2 _ e => zx_bip hy (c := 8) rfl (by decide) <| zx_c hy rfl e (fun _ e => zt_sub (z_fn) <| sfM_canKeepText_30 N    h _ e) (fun _ e => zl hy 1 (pc2 := 12) (lv2 := [(0, .ref l0)]) (st2 := [.ref l0]) rfl <| zx_gR hy rfl e fun x3 _ e => zl hy 1 (pc2 := 16) (lv2 := [(0, .ref l0)]) (st2 := [.int (Int32.ofInt 1), .ref x3]) rfl <| zx_aI hy (j := .iaload) (Or.inl ⟨rfl, rfl⟩) rfl e fun x4 _ e => zl hy 1 (pc2 := 18) (lv2 := [(0, .ref l0)]) (st2 := [.int (Int32.ofInt 1), .int x4]) rfl <| zx_bip hy (c := 40) rfl (by decide) <| zx_call hy (as := [.int x4, .int (Int32.ofInt 1), .int (Int32.ofInt 40)]) (rest := []) (ov := (fun v => some (.int v))) (fun _ => rfl) rfl rfl (Or.inr (Or.inl rfl)) rfl rfl (Nat.le_of_ble_eq_true rfl) (Nat.le_of_ble_eq_true rfl) (fun _ _ hz => absurd rfl hz) (fun _ e => zt_deep (Nat.le_of_ble_eq_true rfl) (sfM_in N x4 (Int32.ofInt 1) (Int32.ofInt 40) h _ e)) e fun x5 h6 _ e => zx_c0 hy rfl e (fun _ e => zt_sub (z_fn) <| sfM_canKeepText_30 N    h6 _ e) (fun _ e => zl hy 2 (pc2 := 31) (lv2 := [(0, .ref l0)]) (st2 := [.int (Int32.ofInt 1)]) rfl <| zt_sub (z_fn) <| sfM_canKeepText_31 N   (Int32.ofInt 1) h6 _ e))
theorem rfM_canKeepText (N : Nat) (l0 : Nat) (h : zH) (r : Int32 × zH) (e : fM_canKeepText N l0 h = some r) : fT h l0 5 = true := by
  unfold fM_canKeepText at e
  exact (cond_some e).1
/-- LyndonBenchModel.keepsFactor(I)I -/
theorem mfM_keepsFactor : z_me 188 zc_188 2 [] (some .int) := ⟨z_me0 rfl, rfl, rfl, rfl⟩
abbrev zC_188_m : List zE := [(0, .aload_n 0, 1, 0, 0), (1, .invokevirtual 105, 3, 160, 0), (4, .pop, 1, 0, 0), (5, .aload_n 0, 1, 0, 0), (6, .aload_n 0, 1, 0, 0), (7, .getfield 31, 3, 5, 9), (10, .iload_n 1, 1, 0, 0), (11, .iaload, 1, 0, 0), (12, .aload_n 0, 1, 0, 0), (13, .getfield 31, 3, 5, 9), (16, .iload_n 1, 1, 0, 0), (17, .iconst 1, 1, 0, 0), (18, .iadd, 1, 0, 0), (19, .iaload, 1, 0, 0), (20, .aload_n 0, 1, 0, 0), (21, .getfield 31, 3, 5, 9), (24, .iload_n 1, 1, 0, 0), (25, .iaload, 1, 0, 0), (26, .isub, 1, 0, 0), (27, .invokevirtual 123, 3, 185, 2), (30, .ireturn, 1, 0, 0)]
theorem mfM_keepsFactor_m : z_me 188 zC_188_m 2 [] (some .int) := ⟨z_me1 (cd := zc_188) rfl (by decide +kernel), rfl, rfl, rfl⟩
def fM_keepsFactor (N : Nat) (l0 : Nat) (l1 : Int32) (h : zH) : Option (Int32 × zH) := cond (fT h l0 5) (b2 (fM_factors N l0 h) fun x1 h2 => b1 (fR h2 l0 5 9) fun x3 => b1 (fAI h2 x3 100 l1) fun x4 => b1 (fR h2 l0 5 9) fun x5 => b1 (fAI h2 x5 100 (l1 + (Int32.ofInt 1))) fun x6 => b1 (fR h2 l0 5 9) fun x7 => b1 (fAI h2 x7 100 l1) fun x8 => b2 (fM_shelves N l0 x4 (x6 - x8) h2) fun x9 h10 => some (x9, h10)) none
theorem sfM_keepsFactor {xs : List Int32} (N : Nat) (l0 : Nat) (l1 : Int32) (h : zH) (r : Int32 × zH) (e : fM_keepsFactor N l0 l1 h = some r) : zt xs (4) 188 0 [(0, .ref l0), (1, .int l1)] [] h 0 0 (zQ cI r) := by
  have hy := mfM_keepsFactor_m
  unfold fM_keepsFactor at e
  replace e := (cond_some e).2
  exact zl hy 1 (pc2 := 1) (lv2 := [(0, .ref l0), (1, .int l1)]) (st2 := [.ref l0]) rfl <| zx_call hy (as := [.ref l0]) (rest := []) (ov := (fun v => some (.int v))) (fun _ => rfl) rfl rfl (Or.inl rfl) rfl rfl (Nat.le_of_ble_eq_true rfl) (Nat.le_of_ble_eq_true rfl) (fun _ e _ => z_rcvT (rfM_factors N l0 h _ e)) (fun _ e => zt_deep (Nat.le_of_ble_eq_true rfl) (sfM_factors N l0 h _ e)) e fun x1 h2 _ e => zl hy 3 (pc2 := 7) (lv2 := [(0, .ref l0), (1, .int l1)]) (st2 := [.ref l0, .ref l0]) rfl <| zx_gR hy rfl e fun x3 _ e => zl hy 1 (pc2 := 11) (lv2 := [(0, .ref l0), (1, .int l1)]) (st2 := [.int l1, .ref x3, .ref l0]) rfl <| zx_aI hy (j := .iaload) (Or.inl ⟨rfl, rfl⟩) rfl e fun x4 _ e => zl hy 1 (pc2 := 13) (lv2 := [(0, .ref l0), (1, .int l1)]) (st2 := [.ref l0, .int x4, .ref l0]) rfl <| zx_gR hy rfl e fun x5 _ e => zl hy 3 (pc2 := 19) (lv2 := [(0, .ref l0), (1, .int l1)]) (st2 := [.int (l1 + (Int32.ofInt 1)), .ref x5, .int x4, .ref l0]) rfl <| zx_aI hy (j := .iaload) (Or.inl ⟨rfl, rfl⟩) rfl e fun x6 _ e => zl hy 1 (pc2 := 21) (lv2 := [(0, .ref l0), (1, .int l1)]) (st2 := [.ref l0, .int x6, .int x4, .ref l0]) rfl <| zx_gR hy rfl e fun x7 _ e => zl hy 1 (pc2 := 25) (lv2 := [(0, .ref l0), (1, .int l1)]) (st2 := [.int l1, .ref x7, .int x6, .int x4, .ref l0]) rfl <| zx_aI hy (j := .iaload) (Or.inl ⟨rfl, rfl⟩) rfl e fun x8 _ e => zl hy 1 (pc2 := 27) (lv2 := [(0, .ref l0), (1, .int l1)]) (st2 := [.int (x6 - x8), .int x4, .ref l0]) rfl <| zx_call hy (as := [.ref l0, .int x4, .int (x6 - x8)]) (rest := []) (ov := (fun v => some (.int v))) (fun _ => rfl) rfl rfl (Or.inl rfl) rfl rfl (Nat.le_of_ble_eq_true rfl) (Nat.le_of_ble_eq_true rfl) (fun _ e _ => z_rcvT (rfM_shelves N l0 x4 (x6 - x8) h2 _ e)) (fun _ e => zt_deep (Nat.le_of_ble_eq_true rfl) (sfM_shelves N l0 x4 (x6 - x8) h2 _ e)) e fun x9 h10 _ e => zx_ret hy rfl rfl rfl rfl e
theorem rfM_keepsFactor (N : Nat) (l0 : Nat) (l1 : Int32) (h : zH) (r : Int32 × zH) (e : fM_keepsFactor N l0 l1 h = some r) : fT h l0 5 = true := by
  unfold fM_keepsFactor at e
  exact (cond_some e).1
/-- LyndonBenchModel.removes(I)I -/
theorem mfM_removes : z_me 189 zc_189 4 [] (some .int) := ⟨z_me0 rfl, rfl, rfl, rfl⟩
abbrev zC_189_114 : List zE := [(114, .iload_n 2, 1, 0, 0), (115, .bipush 40, 2, 0, 0), (117, .if_icmp .ge 30, 3, 147, 0), (120, .aload_n 0, 1, 0, 0), (121, .getfield 7, 3, 5, 0), (124, .sipush 131, 3, 0, 0), (127, .bipush 40, 2, 0, 0), (129, .aload_n 0, 1, 0, 0), (130, .getfield 7, 3, 5, 0), (133, .iconst 2, 1, 0, 0), (134, .iaload, 1, 0, 0), (135, .imul, 1, 0, 0), (136, .iadd, 1, 0, 0), (137, .iload_n 2, 1, 0, 0), (138, .iadd, 1, 0, 0), (139, .iconst 0, 1, 0, 0), (140, .iastore, 1, 0, 0), (141, .iinc 2 1, 3, 0, 0), (144, .goto (-30), 3, 114, 0), (147, .aload_n 0, 1, 0, 0), (148, .getfield 7, 3, 5, 0), (151, .iconst 2, 1, 0, 0), (152, .iaload, 1, 0, 0), (153, .ireturn, 1, 0, 0)]
theorem mfM_removes_114 : z_me 189 zC_189_114 4 [] (some .int) := ⟨z_me1 (cd := zc_189) rfl (by decide +kernel), rfl, rfl, rfl⟩
abbrev zC_189_36 : List zE := [(36, .iload_n 3, 1, 0, 0), (37, .bipush 40, 2, 0, 0), (39, .if_icmp .ge 42, 3, 81, 0), (42, .aload_n 0, 1, 0, 0), (43, .getfield 7, 3, 5, 0), (46, .sipush 131, 3, 0, 0), (49, .bipush 40, 2, 0, 0), (51, .iload_n 2, 1, 0, 0), (52, .imul, 1, 0, 0), (53, .iadd, 1, 0, 0), (54, .iload_n 3, 1, 0, 0), (55, .iadd, 1, 0, 0), (56, .aload_n 0, 1, 0, 0), (57, .getfield 7, 3, 5, 0), (60, .sipush 131, 3, 0, 0), (63, .bipush 40, 2, 0, 0), (65, .iload_n 2, 1, 0, 0), (66, .imul, 1, 0, 0), (67, .iadd, 1, 0, 0), (68, .bipush 40, 2, 0, 0), (70, .iadd, 1, 0, 0), (71, .iload_n 3, 1, 0, 0), (72, .iadd, 1, 0, 0), (73, .iaload, 1, 0, 0), (74, .iastore, 1, 0, 0), (75, .iinc 3 1, 3, 0, 0), (78, .goto (-42), 3, 36, 0), (81, .iinc 2 1, 3, 0, 0), (84, .goto (-82), 3, 2, 0)]
theorem mfM_removes_36 : z_me 189 zC_189_36 4 [] (some .int) := ⟨z_me1 (cd := zc_189) rfl (by decide +kernel), rfl, rfl, rfl⟩
abbrev zC_189_2 : List zE := [(2, .iload_n 2, 1, 0, 0), (3, .iconst 1, 1, 0, 0), (4, .iadd, 1, 0, 0), (5, .aload_n 0, 1, 0, 0), (6, .getfield 7, 3, 5, 0), (9, .iconst 2, 1, 0, 0), (10, .iaload, 1, 0, 0), (11, .if_icmp .ge 76, 3, 87, 0), (14, .aload_n 0, 1, 0, 0), (15, .getfield 7, 3, 5, 0), (18, .bipush 123, 2, 0, 0), (20, .iload_n 2, 1, 0, 0), (21, .iadd, 1, 0, 0), (22, .aload_n 0, 1, 0, 0), (23, .getfield 7, 3, 5, 0), (26, .bipush 123, 2, 0, 0), (28, .iload_n 2, 1, 0, 0), (29, .iadd, 1, 0, 0), (30, .iconst 1, 1, 0, 0), (31, .iadd, 1, 0, 0), (32, .iaload, 1, 0, 0), (33, .iastore, 1, 0, 0), (34, .iconst 0, 1, 0, 0), (35, .istore_n 3, 1, 0, 0), (87, .aload_n 0, 1, 0, 0), (88, .getfield 7, 3, 5, 0), (91, .iconst 2, 1, 0, 0), (92, .dup2, 1, 0, 0), (93, .iaload, 1, 0, 0), (94, .iconst 1, 1, 0, 0), (95, .isub, 1, 0, 0), (96, .iastore, 1, 0, 0), (97, .aload_n 0, 1, 0, 0), (98, .getfield 7, 3, 5, 0), (101, .bipush 123, 2, 0, 0), (103, .aload_n 0, 1, 0, 0), (104, .getfield 7, 3, 5, 0), (107, .iconst 2, 1, 0, 0), (108, .iaload, 1, 0, 0), (109, .iadd, 1, 0, 0), (110, .iconst 0, 1, 0, 0), (111, .iastore, 1, 0, 0), (112, .iconst 0, 1, 0, 0), (113, .istore_n 2, 1, 0, 0)]
theorem mfM_removes_2 : z_me 189 zC_189_2 4 [] (some .int) := ⟨z_me1 (cd := zc_189) rfl (by decide +kernel), rfl, rfl, rfl⟩
abbrev zC_189_m : List zE := [(0, .iload_n 1, 1, 0, 0), (1, .istore_n 2, 1, 0, 0)]
theorem mfM_removes_m : z_me 189 zC_189_m 4 [] (some .int) := ⟨z_me1 (cd := zc_189) rfl (by decide +kernel), rfl, rfl, rfl⟩
def fM_removes_114 (N : Nat) : Nat → Nat → Int32 → zH → Option (Int32 × zH)
  | 0, _, _, _ => none
  | n + 1, l0, l2, h => cond (z_cmp .ge l2 (Int32.ofInt 40)) (b1 (fR h l0 5 0) fun x10 => b1 (fAI h x10 100 (Int32.ofInt 2)) fun x11 => some (x11, h)) (b1 (fR h l0 5 0) fun x12 => b1 (fR h l0 5 0) fun x13 => b1 (fAI h x13 100 (Int32.ofInt 2)) fun x14 => b1 (fAS h x12 100 (((Int32.ofInt 131) + ((Int32.ofInt 40) * x14)) + l2) (.int (Int32.ofInt 0))) fun h15 => fM_removes_114 N n  l0 (l2 + Int32.ofInt 1) h15)
theorem sfM_removes_114 {xs : List Int32} (N : Nat)   : ∀ (n : Nat) (l0 : Nat) (l2 : Int32) (h : zH) (r : Int32 × zH), fM_removes_114 N n  l0 l2 h = some r → zt xs (1) 189 114 [(0, .ref l0), (2, .int l2)] [] h 0 0 (zQ cI r) := by
  have hy := mfM_removes_114
  intro n
  induction n with
  | zero =>
    intro l0 l2 h r e
    rw [fM_removes_114] at e
    cases e
  | succ n ih =>
    intro l0 l2 h r e
    rw [fM_removes_114] at e
    exact zl hy 1 (pc2 := 115) (lv2 := [(0, .ref l0), (2, .int l2)]) (st2 := [.int l2]) rfl <| zx_bip hy (c := 40) rfl (by decide) <| zx_c hy rfl e (fun _ e => zl hy 1 (pc2 := 148) (lv2 := [(0, .ref l0), (2, .int l2)]) (st2 := [.ref l0]) rfl <| zx_gR hy rfl e fun x10 _ e => zl hy 1 (pc2 := 152) (lv2 := [(0, .ref l0), (2, .int l2)]) (st2 := [.int (Int32.ofInt 2), .ref x10]) rfl <| zx_aI hy (j := .iaload) (Or.inl ⟨rfl, rfl⟩) rfl e fun x11 _ e => zx_ret hy rfl rfl rfl rfl e) (fun _ e => zl hy 1 (pc2 := 121) (lv2 := [(0, .ref l0), (2, .int l2)]) (st2 := [.ref l0]) rfl <| zx_gR hy rfl e fun x12 _ e => zx_sip hy (c := 131) rfl (by decide) <| zx_bip hy (c := 40) rfl (by decide) <| zl hy 1 (pc2 := 130) (lv2 := [(0, .ref l0), (2, .int l2)]) (st2 := [.ref l0, .int (Int32.ofInt 40), .int (Int32.ofInt 131), .ref x12]) rfl <| zx_gR hy rfl e fun x13 _ e => zl hy 1 (pc2 := 134) (lv2 := [(0, .ref l0), (2, .int l2)]) (st2 := [.int (Int32.ofInt 2), .ref x13, .int (Int32.ofInt 40), .int (Int32.ofInt 131), .ref x12]) rfl <| zx_aI hy (j := .iaload) (Or.inl ⟨rfl, rfl⟩) rfl e fun x14 _ e => zl hy 5 (pc2 := 140) (lv2 := [(0, .ref l0), (2, .int l2)]) (st2 := [.int (Int32.ofInt 0), .int (((Int32.ofInt 131) + ((Int32.ofInt 40) * x14)) + l2), .ref x12]) rfl <| zx_sI hy (j := .iastore) (Or.inl ⟨rfl, rfl, rfl⟩) rfl e fun h15 _ e => zl hy 2 (pc2 := 114) (lv2 := [(2, .int (l2 + Int32.ofInt 1)), (0, .ref l0)]) (st2 := []) rfl <| zt_sub (z_fc rfl (z_fc rfl (z_fn))) <| ih l0 (l2 + Int32.ofInt 1) h15 _ e)
def fM_removes_36 (N : Nat) : Nat → (Nat → Int32 → zH → Option (Int32 × zH)) → Nat → Int32 → Int32 → zH → Option (Int32 × zH)
  | 0, _, _, _, _, _ => none
  | n + 1, k2, l0, l2, l3, h => cond (z_cmp .ge l3 (Int32.ofInt 40)) (k2 l0 (l2 + Int32.ofInt 1) h) (b1 (fR h l0 5 0) fun x14 => b1 (fR h l0 5 0) fun x15 => b1 (fAI h x15 100 ((((Int32.ofInt 131) + ((Int32.ofInt 40) * l2)) + (Int32.ofInt 40)) + l3)) fun x16 => b1 (fAS h x14 100 (((Int32.ofInt 131) + ((Int32.ofInt 40) * l2)) + l3) (.int x16)) fun h17 => fM_removes_36 N n k2 l0 l2 (l3 + Int32.ofInt 1) h17)
theorem sfM_removes_36 {xs : List Int32} (N : Nat) (k2 : Nat → Int32 → zH → Option (Int32 × zH))  (hk2 : ∀ (l0 : Nat) (l2 : Int32) (h : zH) (r : Int32 × zH), k2 l0 l2 h = some r → zt xs (1) 189 2 [(0, .ref l0), (2, .int l2)] [] h 0 0 (zQ cI r)) : ∀ (n : Nat) (l0 : Nat) (l2 : Int32) (l3 : Int32) (h : zH) (r : Int32 × zH), fM_removes_36 N n k2 l0 l2 l3 h = some r → zt xs (1) 189 36 [(0, .ref l0), (2, .int l2), (3, .int l3)] [] h 0 0 (zQ cI r) := by
  have hy := mfM_removes_36
  intro n
  induction n with
  | zero =>
    intro l0 l2 l3 h r e
    rw [fM_removes_36] at e
    cases e
  | succ n ih =>
    intro l0 l2 l3 h r e
    rw [fM_removes_36] at e
    exact zl hy 1 (pc2 := 37) (lv2 := [(0, .ref l0), (2, .int l2), (3, .int l3)]) (st2 := [.int l3]) rfl <| zx_bip hy (c := 40) rfl (by decide) <| zx_c hy rfl e (fun _ e => zl hy 2 (pc2 := 2) (lv2 := [(2, .int (l2 + Int32.ofInt 1)), (0, .ref l0), (3, .int l3)]) (st2 := []) rfl <| zt_sub (z_fc rfl (z_fc rfl (z_fn))) <| hk2 l0 (l2 + Int32.ofInt 1) h _ e) (fun _ e => zl hy 1 (pc2 := 43) (lv2 := [(0, .ref l0), (2, .int l2), (3, .int l3)]) (st2 := [.ref l0]) rfl <| zx_gR hy rfl e fun x14 _ e => zx_sip hy (c := 131) rfl (by decide) <| zx_bip hy (c := 40) rfl (by decide) <| zl hy 6 (pc2 := 57) (lv2 := [(0, .ref l0), (2, .int l2), (3, .int l3)]) (st2 := [.ref l0, .int (((Int32.ofInt 131) + ((Int32.ofInt 40) * l2)) + l3), .ref x14]) rfl <| zx_gR hy rfl e fun x15 _ e => zx_sip hy (c := 131) rfl (by decide) <| zx_bip hy (c := 40) rfl (by decide) <| zl hy 3 (pc2 := 68) (lv2 := [(0, .ref l0), (2, .int l2), (3, .int l3)]) (st2 := [.int ((Int32.ofInt 131) + ((Int32.ofInt 40) * l2)), .ref x15, .int (((Int32.ofInt 131) + ((Int32.ofInt 40) * l2)) + l3), .ref x14]) rfl <| zx_bip hy (c := 40) rfl (by decide) <| zl hy 3 (pc2 := 73) (lv2 := [(0, .ref l0), (2, .int l2), (3, .int l3)]) (st2 := [.int ((((Int32.ofInt 131) + ((Int32.ofInt 40) * l2)) + (Int32.ofInt 40)) + l3), .ref x15, .int (((Int32.ofInt 131) + ((Int32.ofInt 40) * l2)) + l3), .ref x14]) rfl <| zx_aI hy (j := .iaload) (Or.inl ⟨rfl, rfl⟩) rfl e fun x16 _ e => zx_sI hy (j := .iastore) (Or.inl ⟨rfl, rfl, rfl⟩) rfl e fun h17 _ e => zl hy 2 (pc2 := 36) (lv2 := [(3, .int (l3 + Int32.ofInt 1)), (0, .ref l0), (2, .int l2)]) (st2 := []) rfl <| zt_sub (z_fc rfl (z_fc rfl (z_fc rfl (z_fn)))) <| ih l0 l2 (l3 + Int32.ofInt 1) h17 _ e)
def fM_removes_2 (N : Nat) : Nat → Nat → Int32 → zH → Option (Int32 × zH)
  | 0, _, _, _ => none
  | n + 1, l0, l2, h => b1 (fR h l0 5 0) fun x1 => b1 (fAI h x1 100 (Int32.ofInt 2)) fun x2 => cond (z_cmp .ge (l2 + (Int32.ofInt 1)) x2) (b1 (fR h l0 5 0) fun x3 => b1 (fAI h x3 100 (Int32.ofInt 2)) fun x4 => b1 (fAS h x3 100 (Int32.ofInt 2) (.int (x4 - (Int32.ofInt 1)))) fun h5 => b1 (fR h5 l0 5 0) fun x6 => b1 (fR h5 l0 5 0) fun x7 => b1 (fAI h5 x7 100 (Int32.ofInt 2)) fun x8 => b1 (fAS h5 x6 100 ((Int32.ofInt 123) + x8) (.int (Int32.ofInt 0))) fun h9 => fM_removes_114 N N  l0 (Int32.ofInt 0) h9) (b1 (fR h l0 5 0) fun x10 => b1 (fR h l0 5 0) fun x11 => b1 (fAI h x11 100 (((Int32.ofInt 123) + l2) + (Int32.ofInt 1))) fun x12 => b1 (fAS h x10 100 ((Int32.ofInt 123) + l2) (.int x12)) fun h13 => fM_removes_36 N N (fM_removes_2 N n ) l0 l2 (Int32.ofInt 0) h13)
theorem sfM_removes_2 {xs : List Int32} (N : Nat)   : ∀ (n : Nat) (l0 : Nat) (l2 : Int32) (h : zH) (r : Int32 × zH), fM_removes_2 N n  l0 l2 h = some r → zt xs (1) 189 2 [(0, .ref l0), (2, .int l2)] [] h 0 0 (zQ cI r) := by
  have hy := mfM_removes_2
  intro n
  induction n with
  | zero =>
    intro l0 l2 h r e
    rw [fM_removes_2] at e
    cases e
  | succ n ih =>
    intro l0 l2 h r e
    rw [fM_removes_2] at e
    exact zl hy 4 (pc2 := 6) (lv2 := [(0, .ref l0), (2, .int l2)]) (st2 := [.ref l0, .int (l2 + (Int32.ofInt 1))]) rfl <| zx_gR hy rfl e fun x1 _ e => zl hy 1 (pc2 := 10) (lv2 := [(0, .ref l0), (2, .int l2)]) (st2 := [.int (Int32.ofInt 2), .ref x1, .int (l2 + (Int32.ofInt 1))]) rfl <| zx_aI hy (j := .iaload) (Or.inl ⟨rfl, rfl⟩) rfl e fun x2 _ e => zx_c hy rfl e (fun _ e => zl hy 1 (pc2 := 88) (lv2 := [(0, .ref l0), (2, .int l2)]) (st2 := [.ref l0]) rfl <| zx_gR hy rfl e fun x3 _ e => zl hy 2 (pc2 := 93) (lv2 := [(0, .ref l0), (2, .int l2)]) (st2 := [.int (Int32.ofInt 2), .ref x3, .int (Int32.ofInt 2), .ref x3]) rfl <| zx_aI hy (j := .iaload) (Or.inl ⟨rfl, rfl⟩) rfl e fun x4 _ e => zl hy 2 (pc2 := 96) (lv2 := [(0, .ref l0), (2, .int l2)]) (st2 := [.int (x4 - (Int32.ofInt 1)), .int (Int32.ofInt 2), .ref x3]) rfl <| zx_sI hy (j := .iastore) (Or.inl ⟨rfl, rfl, rfl⟩) rfl e fun h5 _ e => zl hy 1 (pc2 := 98) (lv2 := [(0, .ref l0), (2, .int l2)]) (st2 := [.ref l0]) rfl <| zx_gR hy rfl e fun x6 _ e => zx_bip hy (c := 123) rfl (by decide) <| zl hy 1 (pc2 := 104) (lv2 := [(0, .ref l0), (2, .int l2)]) (st2 := [.ref l0, .int (Int32.ofInt 123), .ref x6]) rfl <| zx_gR hy rfl e fun x7 _ e => zl hy 1 (pc2 := 108) (lv2 := [(0, .ref l0), (2, .int l2)]) (st2 := [.int (Int32.ofInt 2), .ref x7, .int (Int32.ofInt 123), .ref x6]) rfl <| zx_aI hy (j := .iaload) (Or.inl ⟨rfl, rfl⟩) rfl e fun x8 _ e => zl hy 2 (pc2 := 111) (lv2 := [(0, .ref l0), (2, .int l2)]) (st2 := [.int (Int32.ofInt 0), .int ((Int32.ofInt 123) + x8), .ref x6]) rfl <| zx_sI hy (j := .iastore) (Or.inl ⟨rfl, rfl, rfl⟩) rfl e fun h9 _ e => zl hy 2 (pc2 := 114) (lv2 := [(2, .int (Int32.ofInt 0)), (0, .ref l0)]) (st2 := []) rfl <| zt_sub (z_fc rfl (z_fc rfl (z_fn))) <| sfM_removes_114 N   N l0 (Int32.ofInt 0) h9 _ e) (fun _ e => zl hy 1 (pc2 := 15) (lv2 := [(0, .ref l0), (2, .int l2)]) (st2 := [.ref l0]) rfl <| zx_gR hy rfl e fun x10 _ e => zx_bip hy (c := 123) rfl (by decide) <| zl hy 3 (pc2 := 23) (lv2 := [(0, .ref l0), (2, .int l2)]) (st2 := [.ref l0, .int ((Int32.ofInt 123) + l2), .ref x10]) rfl <| zx_gR hy rfl e fun x11 _ e => zx_bip hy (c := 123) rfl (by decide) <| zl hy 4 (pc2 := 32) (lv2 := [(0, .ref l0), (2, .int l2)]) (st2 := [.int (((Int32.ofInt 123) + l2) + (Int32.ofInt 1)), .ref x11, .int ((Int32.ofInt 123) + l2), .ref x10]) rfl <| zx_aI hy (j := .iaload) (Or.inl ⟨rfl, rfl⟩) rfl e fun x12 _ e => zx_sI hy (j := .iastore) (Or.inl ⟨rfl, rfl, rfl⟩) rfl e fun h13 _ e => zl hy 2 (pc2 := 36) (lv2 := [(3, .int (Int32.ofInt 0)), (0, .ref l0), (2, .int l2)]) (st2 := []) rfl <| zt_sub (z_fc rfl (z_fc rfl (z_fc rfl (z_fn)))) <| sfM_removes_36 N (fM_removes_2 N n ) ih N l0 l2 (Int32.ofInt 0) h13 _ e)
def fM_removes (N : Nat) (l0 : Nat) (l1 : Int32) (h : zH) : Option (Int32 × zH) := cond (fT h l0 5) (fM_removes_2 N N  l0 l1 h) none
theorem sfM_removes {xs : List Int32} (N : Nat) (l0 : Nat) (l1 : Int32) (h : zH) (r : Int32 × zH) (e : fM_removes N l0 l1 h = some r) : zt xs (1) 189 0 [(0, .ref l0), (1, .int l1)] [] h 0 0 (zQ cI r) := by
  have hy := mfM_removes_m
  unfold fM_removes at e
  replace e := (cond_some e).2
  exact zl hy 2 (pc2 := 2) (lv2 := [(2, .int l1), (0, .ref l0), (1, .int l1)]) (st2 := []) rfl <| zt_sub (z_fc rfl (z_fc rfl (z_fn))) <| sfM_removes_2 N   N l0 l1 h _ e
theorem rfM_removes (N : Nat) (l0 : Nat) (l1 : Int32) (h : zH) (r : Int32 × zH) (e : fM_removes N l0 l1 h = some r) : fT h l0 5 = true := by
  unfold fM_removes at e
  exact (cond_some e).1
/-- LyndonBenchModel.shelfLength()I -/
theorem mfM_shelfLength : z_me 190 zc_190 3 [] (some .int) := ⟨z_me0 rfl, rfl, rfl, rfl⟩
abbrev zC_190_4 : List zE := [(4, .iload_n 2, 1, 0, 0), (5, .aload_n 0, 1, 0, 0), (6, .getfield 7, 3, 5, 0), (9, .iconst 2, 1, 0, 0), (10, .iaload, 1, 0, 0), (11, .if_icmp .ge 21, 3, 32, 0), (14, .iload_n 1, 1, 0, 0), (15, .aload_n 0, 1, 0, 0), (16, .getfield 7, 3, 5, 0), (19, .bipush 123, 2, 0, 0), (21, .iload_n 2, 1, 0, 0), (22, .iadd, 1, 0, 0), (23, .iaload, 1, 0, 0), (24, .iadd, 1, 0, 0), (25, .istore_n 1, 1, 0, 0), (26, .iinc 2 1, 3, 0, 0), (29, .goto (-25), 3, 4, 0), (32, .iload_n 1, 1, 0, 0), (33, .ireturn, 1, 0, 0)]
theorem mfM_shelfLength_4 : z_me 190 zC_190_4 3 [] (some .int) := ⟨z_me1 (cd := zc_190) rfl (by decide +kernel), rfl, rfl, rfl⟩
abbrev zC_190_m : List zE := [(0, .iconst 0, 1, 0, 0), (1, .istore_n 1, 1, 0, 0), (2, .iconst 0, 1, 0, 0), (3, .istore_n 2, 1, 0, 0)]
theorem mfM_shelfLength_m : z_me 190 zC_190_m 3 [] (some .int) := ⟨z_me1 (cd := zc_190) rfl (by decide +kernel), rfl, rfl, rfl⟩
def fM_shelfLength_4 (N : Nat) : Nat → Nat → Int32 → Int32 → zH → Option (Int32 × zH)
  | 0, _, _, _, _ => none
  | n + 1, l0, l1, l2, h => b1 (fR h l0 5 0) fun x1 => b1 (fAI h x1 100 (Int32.ofInt 2)) fun x2 => cond (z_cmp .ge l2 x2) (some (l1, h)) (b1 (fR h l0 5 0) fun x3 => b1 (fAI h x3 100 ((Int32.ofInt 123) + l2)) fun x4 => fM_shelfLength_4 N n  l0 (l1 + x4) (l2 + Int32.ofInt 1) h)
theorem sfM_shelfLength_4 {xs : List Int32} (N : Nat)   : ∀ (n : Nat) (l0 : Nat) (l1 : Int32) (l2 : Int32) (h : zH) (r : Int32 × zH), fM_shelfLength_4 N n  l0 l1 l2 h = some r → zt xs (1) 190 4 [(0, .ref l0), (1, .int l1), (2, .int l2)] [] h 0 0 (zQ cI r) := by
  have hy := mfM_shelfLength_4
  intro n
  induction n with
  | zero =>
    intro l0 l1 l2 h r e
    rw [fM_shelfLength_4] at e
    cases e
  | succ n ih =>
    intro l0 l1 l2 h r e
    rw [fM_shelfLength_4] at e
    exact zl hy 2 (pc2 := 6) (lv2 := [(0, .ref l0), (1, .int l1), (2, .int l2)]) (st2 := [.ref l0, .int l2]) rfl <| zx_gR hy rfl e fun x1 _ e => zl hy 1 (pc2 := 10) (lv2 := [(0, .ref l0), (1, .int l1), (2, .int l2)]) (st2 := [.int (Int32.ofInt 2), .ref x1, .int l2]) rfl <| zx_aI hy (j := .iaload) (Or.inl ⟨rfl, rfl⟩) rfl e fun x2 _ e => zx_c hy rfl e (fun _ e => zl hy 1 (pc2 := 33) (lv2 := [(0, .ref l0), (1, .int l1), (2, .int l2)]) (st2 := [.int l1]) rfl <| zx_ret hy rfl rfl rfl rfl e) (fun _ e => zl hy 2 (pc2 := 16) (lv2 := [(0, .ref l0), (1, .int l1), (2, .int l2)]) (st2 := [.ref l0, .int l1]) rfl <| zx_gR hy rfl e fun x3 _ e => zx_bip hy (c := 123) rfl (by decide) <| zl hy 2 (pc2 := 23) (lv2 := [(0, .ref l0), (1, .int l1), (2, .int l2)]) (st2 := [.int ((Int32.ofInt 123) + l2), .ref x3, .int l1]) rfl <| zx_aI hy (j := .iaload) (Or.inl ⟨rfl, rfl⟩) rfl e fun x4 _ e => zl hy 4 (pc2 := 4) (lv2 := [(2, .int (l2 + Int32.ofInt 1)), (1, .int (l1 + x4)), (0, .ref l0)]) (st2 := []) rfl <| zt_sub (z_fc rfl (z_fc rfl (z_fc rfl (z_fn)))) <| ih l0 (l1 + x4) (l2 + Int32.ofInt 1) h _ e)
def fM_shelfLength (N : Nat) (l0 : Nat) (h : zH) : Option (Int32 × zH) := cond (fT h l0 5) (fM_shelfLength_4 N N  l0 (Int32.ofInt 0) (Int32.ofInt 0) h) none
theorem sfM_shelfLength {xs : List Int32} (N : Nat) (l0 : Nat) (h : zH) (r : Int32 × zH) (e : fM_shelfLength N l0 h = some r) : zt xs (1) 190 0 [(0, .ref l0)] [] h 0 0 (zQ cI r) := by
  have hy := mfM_shelfLength_m
  unfold fM_shelfLength at e
  replace e := (cond_some e).2
  exact zl hy 4 (pc2 := 4) (lv2 := [(2, .int (Int32.ofInt 0)), (1, .int (Int32.ofInt 0)), (0, .ref l0)]) (st2 := []) rfl <| zt_sub (z_fc rfl (z_fc rfl (z_fc rfl (z_fn)))) <| sfM_shelfLength_4 N   N l0 (Int32.ofInt 0) (Int32.ofInt 0) h _ e
theorem rfM_shelfLength (N : Nat) (l0 : Nat) (h : zH) (r : Int32 × zH) (e : fM_shelfLength N l0 h = some r) : fT h l0 5 = true := by
  unfold fM_shelfLength at e
  exact (cond_some e).1
/-- LyndonBenchModel.canJoin()Z -/
theorem mfM_canJoin : z_me 191 zc_191 1 [] (some .boolean) := ⟨z_me0 rfl, rfl, rfl, rfl⟩
def fM_canJoin_23 (N : Nat)  (s0 : Int32) (h : zH) : Option (Int32 × zH) := cond (decide (s0 = Int32.ofInt 0) || decide (s0 = Int32.ofInt 1)) (some (s0, h)) none
theorem sfM_canJoin_23 {xs : List Int32} (N : Nat)   (s0 : Int32) (h : zH) (r : Int32 × zH) (e : fM_canJoin_23 N  s0 h = some r) : zt xs (2) 191 23 [] [.int s0] h 0 0 (zQ cI r) := by
  have hy := mfM_canJoin
  unfold fM_canJoin_23 at e
  exact zx_retB hy rfl rfl e
def fM_canJoin_22 (N : Nat)   (h : zH) : Option (Int32 × zH) := fM_canJoin_23 N  (Int32.ofInt 0) h
theorem sfM_canJoin_22 {xs : List Int32} (N : Nat)    (h : zH) (r : Int32 × zH) (e : fM_canJoin_22 N   h = some r) : zt xs (2) 191 22 [] [] h 0 0 (zQ cI r) := by
  have hy := mfM_canJoin
  unfold fM_canJoin_22 at e
  exact zl hy 1 (pc2 := 23) (lv2 := []) (st2 := [.int (Int32.ofInt 0)]) rfl <| zt_sub (z_fn) <| sfM_canJoin_23 N   (Int32.ofInt 0) h _ e
def fM_canJoin (N : Nat) (l0 : Nat) (h : zH) : Option (Int32 × zH) := cond (fT h l0 5) (b1 (fR h l0 5 0) fun x1 => b1 (fAI h x1 100 (Int32.ofInt 2)) fun x2 => cond (z_cmp .le x2 (Int32.ofInt 0)) (fM_canJoin_22 N   h) (b2 (fM_shelfLength N l0 h) fun x3 h4 => cond (z_cmp .gt x3 (Int32.ofInt 120)) (fM_canJoin_22 N   h4) (fM_canJoin_23 N  (Int32.ofInt 1) h4))) none
theorem sfM_canJoin {xs : List Int32} (N : Nat) (l0 : Nat) (h : zH) (r : Int32 × zH) (e : fM_canJoin N l0 h = some r) : zt xs (2) 191 0 [(0, .ref l0)] [] h 0 0 (zQ cI r) := by
  have hy := mfM_canJoin
  unfold fM_canJoin at e
  replace e := (cond_some e).2
  exact zl hy 1 (pc2 := 1) (lv2 := [(0, .ref l0)]) (st2 := [.ref l0]) rfl <| zx_gR hy rfl e fun x1 _ e => zl hy 1 (pc2 := 5) (lv2 := [(0, .ref l0)]) (st2 := [.int (Int32.ofInt 2), .ref x1]) rfl <| zx_aI hy (j := .iaload) (Or.inl ⟨rfl, rfl⟩) rfl e fun x2 _ e => zx_c0 hy rfl e (fun _ e => zt_sub (z_fn) <| sfM_canJoin_22 N    h _ e) (fun _ e => zl hy 1 (pc2 := 10) (lv2 := [(0, .ref l0)]) (st2 := [.ref l0]) rfl <| zx_call hy (as := [.ref l0]) (rest := []) (ov := (fun v => some (.int v))) (fun _ => rfl) rfl rfl (Or.inl rfl) rfl rfl (Nat.le_of_ble_eq_true rfl) (Nat.le_of_ble_eq_true rfl) (fun _ e _ => z_rcvT (rfM_shelfLength N l0 h _ e)) (fun _ e => zt_deep (Nat.le_of_ble_eq_true rfl) (sfM_shelfLength N l0 h _ e)) e fun x3 h4 _ e => zx_bip hy (c := 120) rfl (by decide) <| zx_c hy rfl e (fun _ e => zt_sub (z_fn) <| sfM_canJoin_22 N    h4 _ e) (fun _ e => zl hy 2 (pc2 := 23) (lv2 := [(0, .ref l0)]) (st2 := [.int (Int32.ofInt 1)]) rfl <| zt_sub (z_fn) <| sfM_canJoin_23 N   (Int32.ofInt 1) h4 _ e))
theorem rfM_canJoin (N : Nat) (l0 : Nat) (h : zH) (r : Int32 × zH) (e : fM_canJoin N l0 h = some r) : fT h l0 5 = true := by
  unfold fM_canJoin at e
  exact (cond_some e).1
/-- LyndonBenchModel.greatestBeside(I)I -/
theorem mfM_greatestBeside : z_me 192 zc_192 4 [] (some .int) := ⟨z_me0 rfl, rfl, rfl, rfl⟩
abbrev zC_192_38 : List zE := [(38, .iinc 3 1, 3, 0, 0), (41, .goto (-37), 3, 4, 0)]
theorem mfM_greatestBeside_38 : z_me 192 zC_192_38 4 [] (some .int) := ⟨z_me1 (cd := zc_192) rfl (by decide +kernel), rfl, rfl, rfl⟩
abbrev zC_192_36 : List zE := [(36, .iload_n 3, 1, 0, 0), (37, .istore_n 2, 1, 0, 0)]
theorem mfM_greatestBeside_36 : z_me 192 zC_192_36 4 [] (some .int) := ⟨z_me1 (cd := zc_192) rfl (by decide +kernel), rfl, rfl, rfl⟩
abbrev zC_192_4 : List zE := [(4, .iload_n 3, 1, 0, 0), (5, .aload_n 0, 1, 0, 0), (6, .getfield 7, 3, 5, 0), (9, .iconst 2, 1, 0, 0), (10, .iaload, 1, 0, 0), (11, .if_icmp .ge 33, 3, 44, 0), (14, .iload_n 1, 1, 0, 0), (15, .iload_n 3, 1, 0, 0), (16, .ishr, 1, 0, 0), (17, .iconst 1, 1, 0, 0), (18, .iand, 1, 0, 0), (19, .ifCond .ne 19, 3, 38, 0), (22, .iload_n 2, 1, 0, 0), (23, .iconst (-1), 1, 0, 0), (24, .if_icmp .eq 12, 3, 36, 0), (27, .aload_n 0, 1, 0, 0), (28, .iload_n 3, 1, 0, 0), (29, .iload_n 2, 1, 0, 0), (30, .invokevirtual 129, 3, 154, 2), (33, .ifCond .le 5, 3, 38, 0), (44, .iload_n 2, 1, 0, 0), (45, .ireturn, 1, 0, 0)]
theorem mfM_greatestBeside_4 : z_me 192 zC_192_4 4 [] (some .int) := ⟨z_me1 (cd := zc_192) rfl (by decide +kernel), rfl, rfl, rfl⟩
abbrev zC_192_m : List zE := [(0, .iconst (-1), 1, 0, 0), (1, .istore_n 2, 1, 0, 0), (2, .iconst 0, 1, 0, 0), (3, .istore_n 3, 1, 0, 0)]
theorem mfM_greatestBeside_m : z_me 192 zC_192_m 4 [] (some .int) := ⟨z_me1 (cd := zc_192) rfl (by decide +kernel), rfl, rfl, rfl⟩
def fM_greatestBeside_38 (N : Nat) (k4 : Nat → Int32 → Int32 → Int32 → zH → Option (Int32 × zH)) (l0 : Nat) (l1 : Int32) (l2 : Int32) (l3 : Int32) (h : zH) : Option (Int32 × zH) := k4 l0 l1 l2 (l3 + Int32.ofInt 1) h
theorem sfM_greatestBeside_38 {xs : List Int32} (N : Nat) (k4 : Nat → Int32 → Int32 → Int32 → zH → Option (Int32 × zH))  (hk4 : ∀ (l0 : Nat) (l1 : Int32) (l2 : Int32) (l3 : Int32) (h : zH) (r : Int32 × zH), k4 l0 l1 l2 l3 h = some r → zt xs (3) 192 4 [(0, .ref l0), (1, .int l1), (2, .int l2), (3, .int l3)] [] h 0 0 (zQ cI r)) (l0 : Nat) (l1 : Int32) (l2 : Int32) (l3 : Int32) (h : zH) (r : Int32 × zH) (e : fM_greatestBeside_38 N k4 l0 l1 l2 l3 h = some r) : zt xs (3) 192 38 [(0, .ref l0), (1, .int l1), (2, .int l2), (3, .int l3)] [] h 0 0 (zQ cI r) := by
  have hy := mfM_greatestBeside_38
  unfold fM_greatestBeside_38 at e
  exact zl hy 2 (pc2 := 4) (lv2 := [(3, .int (l3 + Int32.ofInt 1)), (0, .ref l0), (1, .int l1), (2, .int l2)]) (st2 := []) rfl <| zt_sub (z_fc rfl (z_fc rfl (z_fc rfl (z_fc rfl (z_fn))))) <| hk4 l0 l1 l2 (l3 + Int32.ofInt 1) h _ e
def fM_greatestBeside_36 (N : Nat) (k4 : Nat → Int32 → Int32 → Int32 → zH → Option (Int32 × zH)) (l0 : Nat) (l1 : Int32) (l3 : Int32) (h : zH) : Option (Int32 × zH) := fM_greatestBeside_38 N k4 l0 l1 l3 l3 h
theorem sfM_greatestBeside_36 {xs : List Int32} (N : Nat) (k4 : Nat → Int32 → Int32 → Int32 → zH → Option (Int32 × zH))  (hk4 : ∀ (l0 : Nat) (l1 : Int32) (l2 : Int32) (l3 : Int32) (h : zH) (r : Int32 × zH), k4 l0 l1 l2 l3 h = some r → zt xs (3) 192 4 [(0, .ref l0), (1, .int l1), (2, .int l2), (3, .int l3)] [] h 0 0 (zQ cI r)) (l0 : Nat) (l1 : Int32) (l3 : Int32) (h : zH) (r : Int32 × zH) (e : fM_greatestBeside_36 N k4 l0 l1 l3 h = some r) : zt xs (3) 192 36 [(0, .ref l0), (1, .int l1), (3, .int l3)] [] h 0 0 (zQ cI r) := by
  have hy := mfM_greatestBeside_36
  unfold fM_greatestBeside_36 at e
  exact zl hy 2 (pc2 := 38) (lv2 := [(2, .int l3), (0, .ref l0), (1, .int l1), (3, .int l3)]) (st2 := []) rfl <| zt_sub (z_fc rfl (z_fc rfl (z_fc rfl (z_fc rfl (z_fn))))) <| sfM_greatestBeside_38 N k4 hk4 l0 l1 l3 l3 h _ e
def fM_greatestBeside_4 (N : Nat) : Nat → Nat → Int32 → Int32 → Int32 → zH → Option (Int32 × zH)
  | 0, _, _, _, _, _ => none
  | n + 1, l0, l1, l2, l3, h => b1 (fR h l0 5 0) fun x1 => b1 (fAI h x1 100 (Int32.ofInt 2)) fun x2 => cond (z_cmp .ge l3 x2) (some (l2, h)) (cond (z_cmp .ne ((l1 >>> (l3 &&& 31)) &&& (Int32.ofInt 1)) (Int32.ofInt 0)) (fM_greatestBeside_38 N (fM_greatestBeside_4 N n ) l0 l1 l2 l3 h) (cond (z_cmp .eq l2 (Int32.ofInt (-1))) (fM_greatestBeside_36 N (fM_greatestBeside_4 N n ) l0 l1 l3 h) (b2 (fM_shelved N l0 l3 l2 h) fun x3 h4 => cond (z_cmp .le x3 (Int32.ofInt 0)) (fM_greatestBeside_38 N (fM_greatestBeside_4 N n ) l0 l1 l2 l3 h4) (fM_greatestBeside_36 N (fM_greatestBeside_4 N n ) l0 l1 l3 h4))))
theorem sfM_greatestBeside_4 {xs : List Int32} (N : Nat)   : ∀ (n : Nat) (l0 : Nat) (l1 : Int32) (l2 : Int32) (l3 : Int32) (h : zH) (r : Int32 × zH), fM_greatestBeside_4 N n  l0 l1 l2 l3 h = some r → zt xs (3) 192 4 [(0, .ref l0), (1, .int l1), (2, .int l2), (3, .int l3)] [] h 0 0 (zQ cI r) := by
  have hy := mfM_greatestBeside_4
  intro n
  induction n with
  | zero =>
    intro l0 l1 l2 l3 h r e
    rw [fM_greatestBeside_4] at e
    cases e
  | succ n ih =>
    intro l0 l1 l2 l3 h r e
    rw [fM_greatestBeside_4] at e
    exact zl hy 2 (pc2 := 6) (lv2 := [(0, .ref l0), (1, .int l1), (2, .int l2), (3, .int l3)]) (st2 := [.ref l0, .int l3]) rfl <| zx_gR hy rfl e fun x1 _ e => zl hy 1 (pc2 := 10) (lv2 := [(0, .ref l0), (1, .int l1), (2, .int l2), (3, .int l3)]) (st2 := [.int (Int32.ofInt 2), .ref x1, .int l3]) rfl <| zx_aI hy (j := .iaload) (Or.inl ⟨rfl, rfl⟩) rfl e fun x2 _ e => zx_c hy rfl e (fun _ e => zl hy 1 (pc2 := 45) (lv2 := [(0, .ref l0), (1, .int l1), (2, .int l2), (3, .int l3)]) (st2 := [.int l2]) rfl <| zx_ret hy rfl rfl rfl rfl e) (fun _ e => zl hy 5 (pc2 := 19) (lv2 := [(0, .ref l0), (1, .int l1), (2, .int l2), (3, .int l3)]) (st2 := [.int ((l1 >>> (l3 &&& 31)) &&& (Int32.ofInt 1))]) rfl <| zx_c0 hy rfl e (fun _ e => zt_sub (z_fc rfl (z_fc rfl (z_fc rfl (z_fc rfl (z_fn))))) <| sfM_greatestBeside_38 N (fM_greatestBeside_4 N n ) ih l0 l1 l2 l3 h _ e) (fun _ e => zl hy 2 (pc2 := 24) (lv2 := [(0, .ref l0), (1, .int l1), (2, .int l2), (3, .int l3)]) (st2 := [.int (Int32.ofInt (-1)), .int l2]) rfl <| zx_c hy rfl e (fun _ e => zt_sub (z_fc rfl (z_fc rfl (z_fc rfl (z_fn)))) <| sfM_greatestBeside_36 N (fM_greatestBeside_4 N n ) ih l0 l1 l3 h _ e) (fun _ e => zl hy 3 (pc2 := 30) (lv2 := [(0, .ref l0), (1, .int l1), (2, .int l2), (3, .int l3)]) (st2 := [.int l2, .int l3, .ref l0]) rfl <| zx_call hy (as := [.ref l0, .int l3, .int l2]) (rest := []) (ov := (fun v => some (.int v))) (fun _ => rfl) rfl rfl (Or.inl rfl) rfl rfl (Nat.le_of_ble_eq_true rfl) (Nat.le_of_ble_eq_true rfl) (fun _ e _ => z_rcvT (rfM_shelved N l0 l3 l2 h _ e)) (fun _ e => zt_deep (Nat.le_of_ble_eq_true rfl) (sfM_shelved N l0 l3 l2 h _ e)) e fun x3 h4 _ e => zx_c0 hy rfl e (fun _ e => zt_sub (z_fc rfl (z_fc rfl (z_fc rfl (z_fc rfl (z_fn))))) <| sfM_greatestBeside_38 N (fM_greatestBeside_4 N n ) ih l0 l1 l2 l3 h4 _ e) (fun _ e => zt_sub (z_fc rfl (z_fc rfl (z_fc rfl (z_fn)))) <| sfM_greatestBeside_36 N (fM_greatestBeside_4 N n ) ih l0 l1 l3 h4 _ e))))
def fM_greatestBeside (N : Nat) (l0 : Nat) (l1 : Int32) (h : zH) : Option (Int32 × zH) := cond (fT h l0 5) (fM_greatestBeside_4 N N  l0 l1 (Int32.ofInt (-1)) (Int32.ofInt 0) h) none
theorem sfM_greatestBeside {xs : List Int32} (N : Nat) (l0 : Nat) (l1 : Int32) (h : zH) (r : Int32 × zH) (e : fM_greatestBeside N l0 l1 h = some r) : zt xs (3) 192 0 [(0, .ref l0), (1, .int l1)] [] h 0 0 (zQ cI r) := by
  have hy := mfM_greatestBeside_m
  unfold fM_greatestBeside at e
  replace e := (cond_some e).2
  exact zl hy 4 (pc2 := 4) (lv2 := [(3, .int (Int32.ofInt 0)), (2, .int (Int32.ofInt (-1))), (0, .ref l0), (1, .int l1)]) (st2 := []) rfl <| zt_sub (z_fc rfl (z_fc rfl (z_fc rfl (z_fc rfl (z_fn))))) <| sfM_greatestBeside_4 N   N l0 l1 (Int32.ofInt (-1)) (Int32.ofInt 0) h _ e
theorem rfM_greatestBeside (N : Nat) (l0 : Nat) (l1 : Int32) (h : zH) (r : Int32 × zH) (e : fM_greatestBeside N l0 l1 h = some r) : fT h l0 5 = true := by
  unfold fM_greatestBeside at e
  exact (cond_some e).1
/-- LyndonBenchModel.joins()I -/
theorem mfM_joins : z_me 193 zc_193 5 [] (some .int) := ⟨z_me0 rfl, rfl, rfl, rfl⟩
abbrev zC_193_34 : List zE := [(34, .iload 4, 2, 0, 0), (36, .aload_n 0, 1, 0, 0), (37, .getfield 7, 3, 5, 0), (40, .bipush 123, 2, 0, 0), (42, .iload_n 3, 1, 0, 0), (43, .iadd, 1, 0, 0), (44, .iaload, 1, 0, 0), (45, .if_icmp .ge 29, 3, 74, 0), (48, .aload_n 0, 1, 0, 0), (49, .aload_n 0, 1, 0, 0), (50, .getfield 7, 3, 5, 0), (53, .sipush 131, 3, 0, 0), (56, .bipush 40, 2, 0, 0), (58, .iload_n 3, 1, 0, 0), (59, .imul, 1, 0, 0), (60, .iadd, 1, 0, 0), (61, .iload 4, 2, 0, 0), (63, .iadd, 1, 0, 0), (64, .iaload, 1, 0, 0), (65, .invokevirtual 98, 3, 156, 1), (68, .iinc 4 1, 3, 0, 0), (71, .goto (-37), 3, 34, 0), (74, .iinc 2 1, 3, 0, 0), (77, .goto (-68), 3, 9, 0)]
theorem mfM_joins_34 : z_me 193 zC_193_34 5 [] (some .int) := ⟨z_me1 (cd := zc_193) rfl (by decide +kernel), rfl, rfl, rfl⟩
abbrev zC_193_9 : List zE := [(9, .iload_n 2, 1, 0, 0), (10, .aload_n 0, 1, 0, 0), (11, .getfield 7, 3, 5, 0), (14, .iconst 2, 1, 0, 0), (15, .iaload, 1, 0, 0), (16, .if_icmp .ge 64, 3, 80, 0), (19, .aload_n 0, 1, 0, 0), (20, .iload_n 1, 1, 0, 0), (21, .invokevirtual 132, 3, 192, 1), (24, .istore_n 3, 1, 0, 0), (25, .iload_n 1, 1, 0, 0), (26, .iconst 1, 1, 0, 0), (27, .iload_n 3, 1, 0, 0), (28, .ishl, 1, 0, 0), (29, .ior, 1, 0, 0), (30, .istore_n 1, 1, 0, 0), (31, .iconst 0, 1, 0, 0), (32, .istore 4, 2, 0, 0), (80, .aload_n 0, 1, 0, 0), (81, .invokevirtual 102, 3, 175, 0), (84, .ireturn, 1, 0, 0)]
theorem mfM_joins_9 : z_me 193 zC_193_9 5 [] (some .int) := ⟨z_me1 (cd := zc_193) rfl (by decide +kernel), rfl, rfl, rfl⟩
abbrev zC_193_m : List zE := [(0, .aload_n 0, 1, 0, 0), (1, .iconst 0, 1, 0, 0), (2, .putfield 66, 3, 5, 14), (5, .iconst 0, 1, 0, 0), (6, .istore_n 1, 1, 0, 0), (7, .iconst 0, 1, 0, 0), (8, .istore_n 2, 1, 0, 0)]
theorem mfM_joins_m : z_me 193 zC_193_m 5 [] (some .int) := ⟨z_me1 (cd := zc_193) rfl (by decide +kernel), rfl, rfl, rfl⟩
def fM_joins_34 (N : Nat) : Nat → (Nat → Int32 → Int32 → zH → Option (Int32 × zH)) → Nat → Int32 → Int32 → Int32 → Int32 → zH → Option (Int32 × zH)
  | 0, _, _, _, _, _, _, _ => none
  | n + 1, k9, l0, l1, l2, l3, l4, h => b1 (fR h l0 5 0) fun x8 => b1 (fAI h x8 100 ((Int32.ofInt 123) + l3)) fun x9 => cond (z_cmp .ge l4 x9) (k9 l0 l1 (l2 + Int32.ofInt 1) h) (b1 (fR h l0 5 0) fun x10 => b1 (fAI h x10 100 (((Int32.ofInt 131) + ((Int32.ofInt 40) * l3)) + l4)) fun x11 => b2 (fM_adds N l0 x11 h) fun _ h13 => fM_joins_34 N n k9 l0 l1 l2 l3 (l4 + Int32.ofInt 1) h13)
theorem sfM_joins_34 {xs : List Int32} (N : Nat) (k9 : Nat → Int32 → Int32 → zH → Option (Int32 × zH))  (hk9 : ∀ (l0 : Nat) (l1 : Int32) (l2 : Int32) (h : zH) (r : Int32 × zH), k9 l0 l1 l2 h = some r → zt xs (4) 193 9 [(0, .ref l0), (1, .int l1), (2, .int l2)] [] h 0 0 (zQ cI r)) : ∀ (n : Nat) (l0 : Nat) (l1 : Int32) (l2 : Int32) (l3 : Int32) (l4 : Int32) (h : zH) (r : Int32 × zH), fM_joins_34 N n k9 l0 l1 l2 l3 l4 h = some r → zt xs (4) 193 34 [(0, .ref l0), (1, .int l1), (2, .int l2), (3, .int l3), (4, .int l4)] [] h 0 0 (zQ cI r) := by
  have hy := mfM_joins_34
  intro n
  induction n with
  | zero =>
    intro l0 l1 l2 l3 l4 h r e
    rw [fM_joins_34] at e
    cases e
  | succ n ih =>
    intro l0 l1 l2 l3 l4 h r e
    rw [fM_joins_34] at e
    exact zl hy 2 (pc2 := 37) (lv2 := [(0, .ref l0), (1, .int l1), (2, .int l2), (3, .int l3), (4, .int l4)]) (st2 := [.ref l0, .int l4]) rfl <| zx_gR hy rfl e fun x8 _ e => zx_bip hy (c := 123) rfl (by decide) <| zl hy 2 (pc2 := 44) (lv2 := [(0, .ref l0), (1, .int l1), (2, .int l2), (3, .int l3), (4, .int l4)]) (st2 := [.int ((Int32.ofInt 123) + l3), .ref x8, .int l4]) rfl <| zx_aI hy (j := .iaload) (Or.inl ⟨rfl, rfl⟩) rfl e fun x9 _ e => zx_c hy rfl e (fun _ e => zl hy 2 (pc2 := 9) (lv2 := [(2, .int (l2 + Int32.ofInt 1)), (0, .ref l0), (1, .int l1), (3, .int l3), (4, .int l4)]) (st2 := []) rfl <| zt_sub (z_fc rfl (z_fc rfl (z_fc rfl (z_fn)))) <| hk9 l0 l1 (l2 + Int32.ofInt 1) h _ e) (fun _ e => zl hy 2 (pc2 := 50) (lv2 := [(0, .ref l0), (1, .int l1), (2, .int l2), (3, .int l3), (4, .int l4)]) (st2 := [.ref l0, .ref l0]) rfl <| zx_gR hy rfl e fun x10 _ e => zx_sip hy (c := 131) rfl (by decide) <| zx_bip hy (c := 40) rfl (by decide) <| zl hy 5 (pc2 := 64) (lv2 := [(0, .ref l0), (1, .int l1), (2, .int l2), (3, .int l3), (4, .int l4)]) (st2 := [.int (((Int32.ofInt 131) + ((Int32.ofInt 40) * l3)) + l4), .ref x10, .ref l0]) rfl <| zx_aI hy (j := .iaload) (Or.inl ⟨rfl, rfl⟩) rfl e fun x11 _ e => zx_call hy (as := [.ref l0, .int x11]) (rest := []) (ov := (fun _ => none)) (fun _ => rfl) rfl rfl (Or.inl rfl) rfl rfl (Nat.le_of_ble_eq_true rfl) (Nat.le_of_ble_eq_true rfl) (fun _ e _ => z_rcvT (rfM_adds N l0 x11 h _ e)) (fun _ e => zt_deep (Nat.le_of_ble_eq_true rfl) (sfM_adds N l0 x11 h _ e)) e fun _ h13 _ e => zl hy 2 (pc2 := 34) (lv2 := [(4, .int (l4 + Int32.ofInt 1)), (0, .ref l0), (1, .int l1), (2, .int l2), (3, .int l3)]) (st2 := []) rfl <| zt_sub (z_fc rfl (z_fc rfl (z_fc rfl (z_fc rfl (z_fc rfl (z_fn)))))) <| ih l0 l1 l2 l3 (l4 + Int32.ofInt 1) h13 _ e)
def fM_joins_9 (N : Nat) : Nat → Nat → Int32 → Int32 → zH → Option (Int32 × zH)
  | 0, _, _, _, _ => none
  | n + 1, l0, l1, l2, h => b1 (fR h l0 5 0) fun x2 => b1 (fAI h x2 100 (Int32.ofInt 2)) fun x3 => cond (z_cmp .ge l2 x3) (b2 (fM_takes N l0 h) fun x4 h5 => some (x4, h5)) (b2 (fM_greatestBeside N l0 l1 h) fun x6 h7 => fM_joins_34 N N (fM_joins_9 N n ) l0 (l1 ||| ((Int32.ofInt 1) <<< (x6 &&& 31))) l2 x6 (Int32.ofInt 0) h7)
theorem sfM_joins_9 {xs : List Int32} (N : Nat)   : ∀ (n : Nat) (l0 : Nat) (l1 : Int32) (l2 : Int32) (h : zH) (r : Int32 × zH), fM_joins_9 N n  l0 l1 l2 h = some r → zt xs (4) 193 9 [(0, .ref l0), (1, .int l1), (2, .int l2)] [] h 0 0 (zQ cI r) := by
  have hy := mfM_joins_9
  intro n
  induction n with
  | zero =>
    intro l0 l1 l2 h r e
    rw [fM_joins_9] at e
    cases e
  | succ n ih =>
    intro l0 l1 l2 h r e
    rw [fM_joins_9] at e
    exact zl hy 2 (pc2 := 11) (lv2 := [(0, .ref l0), (1, .int l1), (2, .int l2)]) (st2 := [.ref l0, .int l2]) rfl <| zx_gR hy rfl e fun x2 _ e => zl hy 1 (pc2 := 15) (lv2 := [(0, .ref l0), (1, .int l1), (2, .int l2)]) (st2 := [.int (Int32.ofInt 2), .ref x2, .int l2]) rfl <| zx_aI hy (j := .iaload) (Or.inl ⟨rfl, rfl⟩) rfl e fun x3 _ e => zx_c hy rfl e (fun _ e => zl hy 1 (pc2 := 81) (lv2 := [(0, .ref l0), (1, .int l1), (2, .int l2)]) (st2 := [.ref l0]) rfl <| zx_call hy (as := [.ref l0]) (rest := []) (ov := (fun v => some (.int v))) (fun _ => rfl) rfl rfl (Or.inl rfl) rfl rfl (Nat.le_of_ble_eq_true rfl) (Nat.le_of_ble_eq_true rfl) (fun _ e _ => z_rcvT (rfM_takes N l0 h _ e)) (fun _ e => zt_deep (Nat.le_of_ble_eq_true rfl) (sfM_takes N l0 h _ e)) e fun x4 h5 _ e => zx_ret hy rfl rfl rfl rfl e) (fun _ e => zl hy 2 (pc2 := 21) (lv2 := [(0, .ref l0), (1, .int l1), (2, .int l2)]) (st2 := [.int l1, .ref l0]) rfl <| zx_call hy (as := [.ref l0, .int l1]) (rest := []) (ov := (fun v => some (.int v))) (fun _ => rfl) rfl rfl (Or.inl rfl) rfl rfl (Nat.le_of_ble_eq_true rfl) (Nat.le_of_ble_eq_true rfl) (fun _ e _ => z_rcvT (rfM_greatestBeside N l0 l1 h _ e)) (fun _ e => zt_deep (Nat.le_of_ble_eq_true rfl) (sfM_greatestBeside N l0 l1 h _ e)) e fun x6 h7 _ e => zl hy 9 (pc2 := 34) (lv2 := [(4, .int (Int32.ofInt 0)), (1, .int (l1 ||| ((Int32.ofInt 1) <<< (x6 &&& 31)))), (3, .int x6), (0, .ref l0), (2, .int l2)]) (st2 := []) rfl <| zt_sub (z_fc rfl (z_fc rfl (z_fc rfl (z_fc rfl (z_fc rfl (z_fn)))))) <| sfM_joins_34 N (fM_joins_9 N n ) ih N l0 (l1 ||| ((Int32.ofInt 1) <<< (x6 &&& 31))) l2 x6 (Int32.ofInt 0) h7 _ e)
def fM_joins (N : Nat) (l0 : Nat) (h : zH) : Option (Int32 × zH) := cond (fT h l0 5) (b1 (fS h l0 5 14 (.int (Int32.ofInt 0))) fun h1 => fM_joins_9 N N  l0 (Int32.ofInt 0) (Int32.ofInt 0) h1) none
theorem sfM_joins {xs : List Int32} (N : Nat) (l0 : Nat) (h : zH) (r : Int32 × zH) (e : fM_joins N l0 h = some r) : zt xs (4) 193 0 [(0, .ref l0)] [] h 0 0 (zQ cI r) := by
  have hy := mfM_joins_m
  unfold fM_joins at e
  replace e := (cond_some e).2
  exact zl hy 2 (pc2 := 2) (lv2 := [(0, .ref l0)]) (st2 := [.int (Int32.ofInt 0), .ref l0]) rfl <| zx_pf hy rfl e (rfl) fun h1 _ e => zl hy 4 (pc2 := 9) (lv2 := [(2, .int (Int32.ofInt 0)), (1, .int (Int32.ofInt 0)), (0, .ref l0)]) (st2 := []) rfl <| zt_sub (z_fc rfl (z_fc rfl (z_fc rfl (z_fn)))) <| sfM_joins_9 N   N l0 (Int32.ofInt 0) (Int32.ofInt 0) h1 _ e
theorem rfM_joins (N : Nat) (l0 : Nat) (h : zH) (r : Int32 × zH) (e : fM_joins N l0 h = some r) : fT h l0 5 = true := by
  unfold fM_joins at e
  exact (cond_some e).1
/-- LyndonBenchModel.canHave(I)Z -/
theorem mfM_canHave : z_me 194 zc_194 4 [] (some .boolean) := ⟨z_me0 rfl, rfl, rfl, rfl⟩
abbrev zC_194_106 : List zE := [(106, .ireturn, 1, 0, 0)]
theorem mfM_canHave_106 : z_me 194 zC_194_106 4 [] (some .boolean) := ⟨z_me1 (cd := zc_194) rfl (by decide +kernel), rfl, rfl, rfl⟩
abbrev zC_194_86 : List zE := [(86, .invokestatic 135, 3, 9998, 0), (89, .istore_n 2, 1, 0, 0), (90, .iinc 3 1, 3, 0, 0), (93, .goto (-56), 3, 37, 0)]
theorem mfM_canHave_86 : z_me 194 zC_194_86 4 [] (some .boolean) := ⟨z_me1 (cd := zc_194) rfl (by decide +kernel), rfl, rfl, rfl⟩
abbrev zC_194_37 : List zE := [(37, .iload_n 3, 1, 0, 0), (38, .aload_n 0, 1, 0, 0), (39, .getfield 7, 3, 5, 0), (42, .iconst 2, 1, 0, 0), (43, .iaload, 1, 0, 0), (44, .bipush 40, 2, 0, 0), (46, .imul, 1, 0, 0), (47, .if_icmp .ge 49, 3, 96, 0), (50, .iload_n 2, 1, 0, 0), (51, .iload_n 3, 1, 0, 0), (52, .bipush 40, 2, 0, 0), (54, .irem, 1, 0, 0), (55, .aload_n 0, 1, 0, 0), (56, .getfield 7, 3, 5, 0), (59, .bipush 123, 2, 0, 0), (61, .iload_n 3, 1, 0, 0), (62, .bipush 40, 2, 0, 0), (64, .idiv, 1, 0, 0), (65, .iadd, 1, 0, 0), (66, .iaload, 1, 0, 0), (67, .if_icmp .ge 18, 3, 85, 0), (70, .aload_n 0, 1, 0, 0), (71, .getfield 7, 3, 5, 0), (74, .sipush 131, 3, 0, 0), (77, .iload_n 3, 1, 0, 0), (78, .iadd, 1, 0, 0), (79, .iaload, 1, 0, 0), (80, .iconst 1, 1, 0, 0), (81, .iadd, 1, 0, 0), (82, .goto 4, 3, 86, 0), (85, .iconst 0, 1, 0, 0), (96, .iload_n 2, 1, 0, 0), (97, .iload_n 1, 1, 0, 0), (98, .if_icmp .gt 7, 3, 105, 0), (101, .iconst 1, 1, 0, 0), (102, .goto 4, 3, 106, 0), (105, .iconst 0, 1, 0, 0)]
theorem mfM_canHave_37 : z_me 194 zC_194_37 4 [] (some .boolean) := ⟨z_me1 (cd := zc_194) rfl (by decide +kernel), rfl, rfl, rfl⟩
abbrev zC_194_4 : List zE := [(4, .iload_n 3, 1, 0, 0), (5, .aload_n 0, 1, 0, 0), (6, .getfield 7, 3, 5, 0), (9, .iconst 1, 1, 0, 0), (10, .iaload, 1, 0, 0), (11, .if_icmp .ge 24, 3, 35, 0), (14, .iload_n 2, 1, 0, 0), (15, .aload_n 0, 1, 0, 0), (16, .getfield 7, 3, 5, 0), (19, .iconst 3, 1, 0, 0), (20, .iload_n 3, 1, 0, 0), (21, .iadd, 1, 0, 0), (22, .iaload, 1, 0, 0), (23, .iconst 1, 1, 0, 0), (24, .iadd, 1, 0, 0), (25, .invokestatic 135, 3, 9998, 0), (28, .istore_n 2, 1, 0, 0), (29, .iinc 3 1, 3, 0, 0), (32, .goto (-28), 3, 4, 0), (35, .iconst 0, 1, 0, 0), (36, .istore_n 3, 1, 0, 0)]
theorem mfM_canHave_4 : z_me 194 zC_194_4 4 [] (some .boolean) := ⟨z_me1 (cd := zc_194) rfl (by decide +kernel), rfl, rfl, rfl⟩
abbrev zC_194_m : List zE := [(0, .iconst 0, 1, 0, 0), (1, .istore_n 2, 1, 0, 0), (2, .iconst 0, 1, 0, 0), (3, .istore_n 3, 1, 0, 0)]
theorem mfM_canHave_m : z_me 194 zC_194_m 4 [] (some .boolean) := ⟨z_me1 (cd := zc_194) rfl (by decide +kernel), rfl, rfl, rfl⟩
def fM_canHave_106 (N : Nat)  (s0 : Int32) (h : zH) : Option (Int32 × zH) := cond (decide (s0 = Int32.ofInt 0) || decide (s0 = Int32.ofInt 1)) (some (s0, h)) none
theorem sfM_canHave_106 {xs : List Int32} (N : Nat)   (s0 : Int32) (h : zH) (r : Int32 × zH) (e : fM_canHave_106 N  s0 h = some r) : zt xs (1) 194 106 [] [.int s0] h 0 0 (zQ cI r) := by
  have hy := mfM_canHave_106
  unfold fM_canHave_106 at e
  exact zx_retB hy rfl rfl e
def fM_canHave_86 (N : Nat) (k37 : Nat → Int32 → Int32 → Int32 → zH → Option (Int32 × zH)) (l0 : Nat) (l1 : Int32) (l3 : Int32) (s0 : Int32) (s1 : Int32) (h : zH) : Option (Int32 × zH) := k37 l0 l1 (if s1 < s0 then s0 else s1) (l3 + Int32.ofInt 1) h
theorem sfM_canHave_86 {xs : List Int32} (N : Nat) (k37 : Nat → Int32 → Int32 → Int32 → zH → Option (Int32 × zH))  (hk37 : ∀ (l0 : Nat) (l1 : Int32) (l2 : Int32) (l3 : Int32) (h : zH) (r : Int32 × zH), k37 l0 l1 l2 l3 h = some r → zt xs (1) 194 37 [(0, .ref l0), (1, .int l1), (2, .int l2), (3, .int l3)] [] h 0 0 (zQ cI r)) (l0 : Nat) (l1 : Int32) (l3 : Int32) (s0 : Int32) (s1 : Int32) (h : zH) (r : Int32 × zH) (e : fM_canHave_86 N k37 l0 l1 l3 s0 s1 h = some r) : zt xs (1) 194 86 [(0, .ref l0), (1, .int l1), (3, .int l3)] [.int s0, .int s1] h 0 0 (zQ cI r) := by
  have hy := mfM_canHave_86
  unfold fM_canHave_86 at e
  exact zx_max hy rfl (Nat.le_of_ble_eq_true rfl) <| zl hy 3 (pc2 := 37) (lv2 := [(3, .int (l3 + Int32.ofInt 1)), (2, .int (if s1 < s0 then s0 else s1)), (0, .ref l0), (1, .int l1)]) (st2 := []) rfl <| zt_sub (z_fc rfl (z_fc rfl (z_fc rfl (z_fc rfl (z_fn))))) <| hk37 l0 l1 (if s1 < s0 then s0 else s1) (l3 + Int32.ofInt 1) h _ e
def fM_canHave_37 (N : Nat) : Nat → Nat → Int32 → Int32 → Int32 → zH → Option (Int32 × zH)
  | 0, _, _, _, _, _ => none
  | n + 1, l0, l1, l2, l3, h => b1 (fR h l0 5 0) fun x3 => b1 (fAI h x3 100 (Int32.ofInt 2)) fun x4 => cond (z_cmp .ge l3 (x4 * (Int32.ofInt 40))) (cond (z_cmp .gt l2 l1) (fM_canHave_106 N  (Int32.ofInt 0) h) (fM_canHave_106 N  (Int32.ofInt 1) h)) ((if (Int32.ofInt 40) = Int32.ofInt 0 then none else b1 (fR h l0 5 0) fun x6 => (if (Int32.ofInt 40) = Int32.ofInt 0 then none else b1 (fAI h x6 100 ((Int32.ofInt 123) + (l3 / (Int32.ofInt 40)))) fun x8 => cond (z_cmp .ge (l3 - l3 / (Int32.ofInt 40) * (Int32.ofInt 40)) x8) (fM_canHave_86 N (fM_canHave_37 N n ) l0 l1 l3 (Int32.ofInt 0) l2 h) (b1 (fR h l0 5 0) fun x9 => b1 (fAI h x9 100 ((Int32.ofInt 131) + l3)) fun x10 => fM_canHave_86 N (fM_canHave_37 N n ) l0 l1 l3 (x10 + (Int32.ofInt 1)) l2 h))))
theorem sfM_canHave_37 {xs : List Int32} (N : Nat)   : ∀ (n : Nat) (l0 : Nat) (l1 : Int32) (l2 : Int32) (l3 : Int32) (h : zH) (r : Int32 × zH), fM_canHave_37 N n  l0 l1 l2 l3 h = some r → zt xs (1) 194 37 [(0, .ref l0), (1, .int l1), (2, .int l2), (3, .int l3)] [] h 0 0 (zQ cI r) := by
  have hy := mfM_canHave_37
  intro n
  induction n with
  | zero =>
    intro l0 l1 l2 l3 h r e
    rw [fM_canHave_37] at e
    cases e
  | succ n ih =>
    intro l0 l1 l2 l3 h r e
    rw [fM_canHave_37] at e
    exact zl hy 2 (pc2 := 39) (lv2 := [(0, .ref l0), (1, .int l1), (2, .int l2), (3, .int l3)]) (st2 := [.ref l0, .int l3]) rfl <| zx_gR hy rfl e fun x3 _ e => zl hy 1 (pc2 := 43) (lv2 := [(0, .ref l0), (1, .int l1), (2, .int l2), (3, .int l3)]) (st2 := [.int (Int32.ofInt 2), .ref x3, .int l3]) rfl <| zx_aI hy (j := .iaload) (Or.inl ⟨rfl, rfl⟩) rfl e fun x4 _ e => zx_bip hy (c := 40) rfl (by decide) <| zl hy 1 (pc2 := 47) (lv2 := [(0, .ref l0), (1, .int l1), (2, .int l2), (3, .int l3)]) (st2 := [.int (x4 * (Int32.ofInt 40)), .int l3]) rfl <| zx_c hy rfl e (fun _ e => zl hy 2 (pc2 := 98) (lv2 := [(0, .ref l0), (1, .int l1), (2, .int l2), (3, .int l3)]) (st2 := [.int l1, .int l2]) rfl <| zx_c hy rfl e (fun _ e => zl hy 1 (pc2 := 106) (lv2 := [(0, .ref l0), (1, .int l1), (2, .int l2), (3, .int l3)]) (st2 := [.int (Int32.ofInt 0)]) rfl <| zt_sub (z_fn) <| sfM_canHave_106 N   (Int32.ofInt 0) h _ e) (fun _ e => zl hy 2 (pc2 := 106) (lv2 := [(0, .ref l0), (1, .int l1), (2, .int l2), (3, .int l3)]) (st2 := [.int (Int32.ofInt 1)]) rfl <| zt_sub (z_fn) <| sfM_canHave_106 N   (Int32.ofInt 1) h _ e)) (fun _ e => zl hy 2 (pc2 := 52) (lv2 := [(0, .ref l0), (1, .int l1), (2, .int l2), (3, .int l3)]) (st2 := [.int l3, .int l2]) rfl <| zx_bip hy (c := 40) rfl (by decide) <| zx_rem hy (G := fun _ => b1 (fR h l0 5 0) fun x6 => (if (Int32.ofInt 40) = Int32.ofInt 0 then none else b1 (fAI h x6 100 ((Int32.ofInt 123) + (l3 / (Int32.ofInt 40)))) fun x8 => cond (z_cmp .ge (l3 - l3 / (Int32.ofInt 40) * (Int32.ofInt 40)) x8) (fM_canHave_86 N (fM_canHave_37 N n ) l0 l1 l3 (Int32.ofInt 0) l2 h) (b1 (fR h l0 5 0) fun x9 => b1 (fAI h x9 100 ((Int32.ofInt 131) + l3)) fun x10 => fM_canHave_86 N (fM_canHave_37 N n ) l0 l1 l3 (x10 + (Int32.ofInt 1)) l2 h))) rfl e fun _ e => zl hy 1 (pc2 := 56) (lv2 := [(0, .ref l0), (1, .int l1), (2, .int l2), (3, .int l3)]) (st2 := [.ref l0, .int (l3 - l3 / (Int32.ofInt 40) * (Int32.ofInt 40)), .int l2]) rfl <| zx_gR hy rfl e fun x6 _ e => zx_bip hy (c := 123) rfl (by decide) <| zl hy 1 (pc2 := 62) (lv2 := [(0, .ref l0), (1, .int l1), (2, .int l2), (3, .int l3)]) (st2 := [.int l3, .int (Int32.ofInt 123), .ref x6, .int (l3 - l3 / (Int32.ofInt 40) * (Int32.ofInt 40)), .int l2]) rfl <| zx_bip hy (c := 40) rfl (by decide) <| zx_div hy (G := fun _ => b1 (fAI h x6 100 ((Int32.ofInt 123) + (l3 / (Int32.ofInt 40)))) fun x8 => cond (z_cmp .ge (l3 - l3 / (Int32.ofInt 40) * (Int32.ofInt 40)) x8) (fM_canHave_86 N (fM_canHave_37 N n ) l0 l1 l3 (Int32.ofInt 0) l2 h) (b1 (fR h l0 5 0) fun x9 => b1 (fAI h x9 100 ((Int32.ofInt 131) + l3)) fun x10 => fM_canHave_86 N (fM_canHave_37 N n ) l0 l1 l3 (x10 + (Int32.ofInt 1)) l2 h)) rfl e fun _ e => zl hy 1 (pc2 := 66) (lv2 := [(0, .ref l0), (1, .int l1), (2, .int l2), (3, .int l3)]) (st2 := [.int ((Int32.ofInt 123) + (l3 / (Int32.ofInt 40))), .ref x6, .int (l3 - l3 / (Int32.ofInt 40) * (Int32.ofInt 40)), .int l2]) rfl <| zx_aI hy (j := .iaload) (Or.inl ⟨rfl, rfl⟩) rfl e fun x8 _ e => zx_c hy rfl e (fun _ e => zl hy 1 (pc2 := 86) (lv2 := [(0, .ref l0), (1, .int l1), (2, .int l2), (3, .int l3)]) (st2 := [.int (Int32.ofInt 0), .int l2]) rfl <| zt_sub (z_fc rfl (z_fc rfl (z_fc rfl (z_fn)))) <| sfM_canHave_86 N (fM_canHave_37 N n ) ih l0 l1 l3 (Int32.ofInt 0) l2 h _ e) (fun _ e => zl hy 1 (pc2 := 71) (lv2 := [(0, .ref l0), (1, .int l1), (2, .int l2), (3, .int l3)]) (st2 := [.ref l0, .int l2]) rfl <| zx_gR hy rfl e fun x9 _ e => zx_sip hy (c := 131) rfl (by decide) <| zl hy 2 (pc2 := 79) (lv2 := [(0, .ref l0), (1, .int l1), (2, .int l2), (3, .int l3)]) (st2 := [.int ((Int32.ofInt 131) + l3), .ref x9, .int l2]) rfl <| zx_aI hy (j := .iaload) (Or.inl ⟨rfl, rfl⟩) rfl e fun x10 _ e => zl hy 3 (pc2 := 86) (lv2 := [(0, .ref l0), (1, .int l1), (2, .int l2), (3, .int l3)]) (st2 := [.int (x10 + (Int32.ofInt 1)), .int l2]) rfl <| zt_sub (z_fc rfl (z_fc rfl (z_fc rfl (z_fn)))) <| sfM_canHave_86 N (fM_canHave_37 N n ) ih l0 l1 l3 (x10 + (Int32.ofInt 1)) l2 h _ e))
def fM_canHave_4 (N : Nat) : Nat → Nat → Int32 → Int32 → Int32 → zH → Option (Int32 × zH)
  | 0, _, _, _, _, _ => none
  | n + 1, l0, l1, l2, l3, h => b1 (fR h l0 5 0) fun x1 => b1 (fAI h x1 100 (Int32.ofInt 1)) fun x2 => cond (z_cmp .ge l3 x2) (fM_canHave_37 N N  l0 l1 l2 (Int32.ofInt 0) h) (b1 (fR h l0 5 0) fun x3 => b1 (fAI h x3 100 ((Int32.ofInt 3) + l3)) fun x4 => fM_canHave_4 N n  l0 l1 (if l2 < (x4 + (Int32.ofInt 1)) then (x4 + (Int32.ofInt 1)) else l2) (l3 + Int32.ofInt 1) h)
theorem sfM_canHave_4 {xs : List Int32} (N : Nat)   : ∀ (n : Nat) (l0 : Nat) (l1 : Int32) (l2 : Int32) (l3 : Int32) (h : zH) (r : Int32 × zH), fM_canHave_4 N n  l0 l1 l2 l3 h = some r → zt xs (1) 194 4 [(0, .ref l0), (1, .int l1), (2, .int l2), (3, .int l3)] [] h 0 0 (zQ cI r) := by
  have hy := mfM_canHave_4
  intro n
  induction n with
  | zero =>
    intro l0 l1 l2 l3 h r e
    rw [fM_canHave_4] at e
    cases e
  | succ n ih =>
    intro l0 l1 l2 l3 h r e
    rw [fM_canHave_4] at e
    exact zl hy 2 (pc2 := 6) (lv2 := [(0, .ref l0), (1, .int l1), (2, .int l2), (3, .int l3)]) (st2 := [.ref l0, .int l3]) rfl <| zx_gR hy rfl e fun x1 _ e => zl hy 1 (pc2 := 10) (lv2 := [(0, .ref l0), (1, .int l1), (2, .int l2), (3, .int l3)]) (st2 := [.int (Int32.ofInt 1), .ref x1, .int l3]) rfl <| zx_aI hy (j := .iaload) (Or.inl ⟨rfl, rfl⟩) rfl e fun x2 _ e => zx_c hy rfl e (fun _ e => zl hy 2 (pc2 := 37) (lv2 := [(3, .int (Int32.ofInt 0)), (0, .ref l0), (1, .int l1), (2, .int l2)]) (st2 := []) rfl <| zt_sub (z_fc rfl (z_fc rfl (z_fc rfl (z_fc rfl (z_fn))))) <| sfM_canHave_37 N   N l0 l1 l2 (Int32.ofInt 0) h _ e) (fun _ e => zl hy 2 (pc2 := 16) (lv2 := [(0, .ref l0), (1, .int l1), (2, .int l2), (3, .int l3)]) (st2 := [.ref l0, .int l2]) rfl <| zx_gR hy rfl e fun x3 _ e => zl hy 3 (pc2 := 22) (lv2 := [(0, .ref l0), (1, .int l1), (2, .int l2), (3, .int l3)]) (st2 := [.int ((Int32.ofInt 3) + l3), .ref x3, .int l2]) rfl <| zx_aI hy (j := .iaload) (Or.inl ⟨rfl, rfl⟩) rfl e fun x4 _ e => zl hy 2 (pc2 := 25) (lv2 := [(0, .ref l0), (1, .int l1), (2, .int l2), (3, .int l3)]) (st2 := [.int (x4 + (Int32.ofInt 1)), .int l2]) rfl <| zx_max hy rfl (Nat.le_of_ble_eq_true rfl) <| zl hy 3 (pc2 := 4) (lv2 := [(3, .int (l3 + Int32.ofInt 1)), (2, .int (if l2 < (x4 + (Int32.ofInt 1)) then (x4 + (Int32.ofInt 1)) else l2)), (0, .ref l0), (1, .int l1)]) (st2 := []) rfl <| zt_sub (z_fc rfl (z_fc rfl (z_fc rfl (z_fc rfl (z_fn))))) <| ih l0 l1 (if l2 < (x4 + (Int32.ofInt 1)) then (x4 + (Int32.ofInt 1)) else l2) (l3 + Int32.ofInt 1) h _ e)
def fM_canHave (N : Nat) (l0 : Nat) (l1 : Int32) (h : zH) : Option (Int32 × zH) := cond (fT h l0 5) (fM_canHave_4 N N  l0 l1 (Int32.ofInt 0) (Int32.ofInt 0) h) none
theorem sfM_canHave {xs : List Int32} (N : Nat) (l0 : Nat) (l1 : Int32) (h : zH) (r : Int32 × zH) (e : fM_canHave N l0 l1 h = some r) : zt xs (1) 194 0 [(0, .ref l0), (1, .int l1)] [] h 0 0 (zQ cI r) := by
  have hy := mfM_canHave_m
  unfold fM_canHave at e
  replace e := (cond_some e).2
  exact zl hy 4 (pc2 := 4) (lv2 := [(3, .int (Int32.ofInt 0)), (2, .int (Int32.ofInt 0)), (0, .ref l0), (1, .int l1)]) (st2 := []) rfl <| zt_sub (z_fc rfl (z_fc rfl (z_fc rfl (z_fc rfl (z_fn))))) <| sfM_canHave_4 N   N l0 l1 (Int32.ofInt 0) (Int32.ofInt 0) h _ e
theorem rfM_canHave (N : Nat) (l0 : Nat) (l1 : Int32) (h : zH) (r : Int32 × zH) (e : fM_canHave N l0 l1 h = some r) : fT h l0 5 = true := by
  unfold fM_canHave at e
  exact (cond_some e).1
/-- LyndonBenchModel.tell(Ljava/lang/String;)V -/
theorem mfM_tell : z_me 195 zc_195 3 [] none := ⟨z_me0 rfl, rfl, rfl, rfl⟩
abbrev zC_195_2 : List zE := [(2, .iload_n 2, 1, 0, 0), (3, .aload_n 1, 1, 0, 0), (4, .invokevirtual 140, 3, 294, 0), (7, .if_icmp .ge 33, 3, 40, 0), (10, .aload_n 0, 1, 0, 0), (11, .getfield 25, 3, 5, 7), (14, .aload_n 0, 1, 0, 0), (15, .getfield 145, 3, 5, 11), (18, .aload_n 1, 1, 0, 0), (19, .iload_n 2, 1, 0, 0), (20, .invokevirtual 148, 3, 295, 1), (23, .iastore, 1, 0, 0), (24, .aload_n 0, 1, 0, 0), (25, .dup, 1, 0, 0), (26, .getfield 145, 3, 5, 11), (29, .iconst 1, 1, 0, 0), (30, .iadd, 1, 0, 0), (31, .putfield 145, 3, 5, 11), (34, .iinc 2 1, 3, 0, 0), (37, .goto (-35), 3, 2, 0), (40, .return_, 1, 0, 0)]
theorem mfM_tell_2 : z_me 195 zC_195_2 3 [] none := ⟨z_me1 (cd := zc_195) rfl (by decide +kernel), rfl, rfl, rfl⟩
abbrev zC_195_m : List zE := [(0, .iconst 0, 1, 0, 0), (1, .istore_n 2, 1, 0, 0)]
theorem mfM_tell_m : z_me 195 zC_195_m 3 [] none := ⟨z_me1 (cd := zc_195) rfl (by decide +kernel), rfl, rfl, rfl⟩
def fM_tell_2 (N : Nat) : Nat → Nat → Nat → Int32 → zH → Option (Unit × zH)
  | 0, _, _, _, _ => none
  | n + 1, l0, l1, l2, h => b2 (fJ_length N l1 h) fun x1 h2 => cond (z_cmp .ge l2 x1) (some ((), h2)) (b1 (fR h2 l0 5 7) fun x3 => b1 (fI h2 l0 5 11) fun x4 => b2 (fJ_charAt N l1 l2 h2) fun x5 h6 => b1 (fAS h6 x3 100 x4 (.int x5)) fun h7 => b1 (fI h7 l0 5 11) fun x8 => b1 (fS h7 l0 5 11 (.int (x8 + (Int32.ofInt 1)))) fun h9 => fM_tell_2 N n  l0 l1 (l2 + Int32.ofInt 1) h9)
theorem sfM_tell_2 {xs : List Int32} (N : Nat)   : ∀ (n : Nat) (l0 : Nat) (l1 : Nat) (l2 : Int32) (h : zH) (r : Unit × zH), fM_tell_2 N n  l0 l1 l2 h = some r → zt xs (5) 195 2 [(0, .ref l0), (1, .ref l1), (2, .int l2)] [] h 0 0 (zQ cV r) := by
  have hy := mfM_tell_2
  intro n
  induction n with
  | zero =>
    intro l0 l1 l2 h r e
    rw [fM_tell_2] at e
    cases e
  | succ n ih =>
    intro l0 l1 l2 h r e
    rw [fM_tell_2] at e
    exact zl hy 2 (pc2 := 4) (lv2 := [(0, .ref l0), (1, .ref l1), (2, .int l2)]) (st2 := [.ref l1, .int l2]) rfl <| zx_call hy (as := [.ref l1]) (rest := [.int l2]) (ov := (fun v => some (.int v))) (fun _ => rfl) rfl rfl (Or.inl rfl) rfl rfl (Nat.le_of_ble_eq_true rfl) (Nat.le_of_ble_eq_true rfl) (fun _ e _ => z_rcvT (rfJ_length N l1 h _ e)) (fun _ e => zt_deep (Nat.le_of_ble_eq_true rfl) (sfJ_length N l1 h _ e)) e fun x1 h2 _ e => zx_c hy rfl e (fun _ e => zx_retV hy rfl rfl e) (fun _ e => zl hy 1 (pc2 := 11) (lv2 := [(0, .ref l0), (1, .ref l1), (2, .int l2)]) (st2 := [.ref l0]) rfl <| zx_gR hy rfl e fun x3 _ e => zl hy 1 (pc2 := 15) (lv2 := [(0, .ref l0), (1, .ref l1), (2, .int l2)]) (st2 := [.ref l0, .ref x3]) rfl <| zx_gI hy rfl e fun x4 _ e => zl hy 2 (pc2 := 20) (lv2 := [(0, .ref l0), (1, .ref l1), (2, .int l2)]) (st2 := [.int l2, .ref l1, .int x4, .ref x3]) rfl <| zx_call hy (as := [.ref l1, .int l2]) (rest := [.int x4, .ref x3]) (ov := (fun v => some (.int v))) (fun _ => rfl) rfl rfl (Or.inl rfl) rfl rfl (Nat.le_of_ble_eq_true rfl) (Nat.le_of_ble_eq_true rfl) (fun _ e _ => z_rcvT (rfJ_charAt N l1 l2 h2 _ e)) (fun _ e => zt_deep (Nat.le_of_ble_eq_true rfl) (sfJ_charAt N l1 l2 h2 _ e)) e fun x5 h6 _ e => zx_sI hy (j := .iastore) (Or.inl ⟨rfl, rfl, rfl⟩) rfl e fun h7 _ e => zl hy 2 (pc2 := 26) (lv2 := [(0, .ref l0), (1, .ref l1), (2, .int l2)]) (st2 := [.ref l0, .ref l0]) rfl <| zx_gI hy rfl e fun x8 _ e => zl hy 2 (pc2 := 31) (lv2 := [(0, .ref l0), (1, .ref l1), (2, .int l2)]) (st2 := [.int (x8 + (Int32.ofInt 1)), .ref l0]) rfl <| zx_pf hy rfl e (rfl) fun h9 _ e => zl hy 2 (pc2 := 2) (lv2 := [(2, .int (l2 + Int32.ofInt 1)), (0, .ref l0), (1, .ref l1)]) (st2 := []) rfl <| zt_sub (z_fc rfl (z_fc rfl (z_fc rfl (z_fn)))) <| ih l0 l1 (l2 + Int32.ofInt 1) h9 _ e)
def fM_tell (N : Nat) (l0 : Nat) (l1 : Nat) (h : zH) : Option (Unit × zH) := cond (fT h l0 5) (fM_tell_2 N N  l0 l1 (Int32.ofInt 0) h) none
theorem sfM_tell {xs : List Int32} (N : Nat) (l0 : Nat) (l1 : Nat) (h : zH) (r : Unit × zH) (e : fM_tell N l0 l1 h = some r) : zt xs (5) 195 0 [(0, .ref l0), (1, .ref l1)] [] h 0 0 (zQ cV r) := by
  have hy := mfM_tell_m
  unfold fM_tell at e
  replace e := (cond_some e).2
  exact zl hy 2 (pc2 := 2) (lv2 := [(2, .int (Int32.ofInt 0)), (0, .ref l0), (1, .ref l1)]) (st2 := []) rfl <| zt_sub (z_fc rfl (z_fc rfl (z_fc rfl (z_fn)))) <| sfM_tell_2 N   N l0 l1 (Int32.ofInt 0) h _ e
theorem rfM_tell (N : Nat) (l0 : Nat) (l1 : Nat) (h : zH) (r : Unit × zH) (e : fM_tell N l0 l1 h = some r) : fT h l0 5 = true := by
  unfold fM_tell at e
  exact (cond_some e).1
/-- LyndonBenchModel.sortOf(I)I -/
theorem mfM_sortOf : z_me 196 zc_196 1 [] (some .int) := ⟨z_me0 rfl, rfl, rfl, rfl⟩
abbrev zC_196_64 : List zE := [(64, .ireturn, 1, 0, 0)]
theorem mfM_sortOf_64 : z_me 196 zC_196_64 1 [] (some .int) := ⟨z_me1 (cd := zc_196) rfl (by decide +kernel), rfl, rfl, rfl⟩
abbrev zC_196_42 : List zE := [(42, .iload_n 0, 1, 0, 0), (43, .bipush 40, 2, 0, 0), (45, .if_icmp .ne 7, 3, 52, 0), (48, .iconst 4, 1, 0, 0), (49, .goto 15, 3, 64, 0), (52, .iload_n 0, 1, 0, 0), (53, .bipush 41, 2, 0, 0), (55, .if_icmp .ne 7, 3, 62, 0), (58, .iconst 5, 1, 0, 0), (59, .goto 5, 3, 64, 0), (62, .bipush 6, 2, 0, 0)]
theorem mfM_sortOf_42 : z_me 196 zC_196_42 1 [] (some .int) := ⟨z_me1 (cd := zc_196) rfl (by decide +kernel), rfl, rfl, rfl⟩
abbrev zC_196_26 : List zE := [(26, .iload_n 0, 1, 0, 0), (27, .bipush 48, 2, 0, 0), (29, .if_icmp .lt 13, 3, 42, 0), (32, .iload_n 0, 1, 0, 0), (33, .bipush 57, 2, 0, 0), (35, .if_icmp .gt 7, 3, 42, 0), (38, .iconst 3, 1, 0, 0), (39, .goto 25, 3, 64, 0)]
theorem mfM_sortOf_26 : z_me 196 zC_196_26 1 [] (some .int) := ⟨z_me1 (cd := zc_196) rfl (by decide +kernel), rfl, rfl, rfl⟩
abbrev zC_196_m : List zE := [(0, .iload_n 0, 1, 0, 0), (1, .bipush 59, 2, 0, 0), (3, .if_icmp .ne 7, 3, 10, 0), (6, .iconst 1, 1, 0, 0), (7, .goto 57, 3, 64, 0), (10, .iload_n 0, 1, 0, 0), (11, .bipush 97, 2, 0, 0), (13, .if_icmp .lt 13, 3, 26, 0), (16, .iload_n 0, 1, 0, 0), (17, .bipush 122, 2, 0, 0), (19, .if_icmp .gt 7, 3, 26, 0), (22, .iconst 2, 1, 0, 0), (23, .goto 41, 3, 64, 0)]
theorem mfM_sortOf_m : z_me 196 zC_196_m 1 [] (some .int) := ⟨z_me1 (cd := zc_196) rfl (by decide +kernel), rfl, rfl, rfl⟩
def fM_sortOf_64 (N : Nat)  (s0 : Int32) (h : zH) : Option (Int32 × zH) := some (s0, h)
theorem sfM_sortOf_64 {xs : List Int32} (N : Nat)   (s0 : Int32) (h : zH) (r : Int32 × zH) (e : fM_sortOf_64 N  s0 h = some r) : zt xs (1) 196 64 [] [.int s0] h 0 0 (zQ cI r) := by
  have hy := mfM_sortOf_64
  unfold fM_sortOf_64 at e
  exact zx_ret hy rfl rfl rfl rfl e
def fM_sortOf_42 (N : Nat)  (l0 : Int32) (h : zH) : Option (Int32 × zH) := cond (z_cmp .ne l0 (Int32.ofInt 40)) (cond (z_cmp .ne l0 (Int32.ofInt 41)) (fM_sortOf_64 N  (Int32.ofInt 6) h) (fM_sortOf_64 N  (Int32.ofInt 5) h)) (fM_sortOf_64 N  (Int32.ofInt 4) h)
theorem sfM_sortOf_42 {xs : List Int32} (N : Nat)   (l0 : Int32) (h : zH) (r : Int32 × zH) (e : fM_sortOf_42 N  l0 h = some r) : zt xs (1) 196 42 [(0, .int l0)] [] h 0 0 (zQ cI r) := by
  have hy := mfM_sortOf_42
  unfold fM_sortOf_42 at e
  exact zl hy 1 (pc2 := 43) (lv2 := [(0, .int l0)]) (st2 := [.int l0]) rfl <| zx_bip hy (c := 40) rfl (by decide) <| zx_c hy rfl e (fun _ e => zl hy 1 (pc2 := 53) (lv2 := [(0, .int l0)]) (st2 := [.int l0]) rfl <| zx_bip hy (c := 41) rfl (by decide) <| zx_c hy rfl e (fun _ e => zx_bip hy (c := 6) rfl (by decide) <| zt_sub (z_fn) <| sfM_sortOf_64 N   (Int32.ofInt 6) h _ e) (fun _ e => zl hy 2 (pc2 := 64) (lv2 := [(0, .int l0)]) (st2 := [.int (Int32.ofInt 5)]) rfl <| zt_sub (z_fn) <| sfM_sortOf_64 N   (Int32.ofInt 5) h _ e)) (fun _ e => zl hy 2 (pc2 := 64) (lv2 := [(0, .int l0)]) (st2 := [.int (Int32.ofInt 4)]) rfl <| zt_sub (z_fn) <| sfM_sortOf_64 N   (Int32.ofInt 4) h _ e)
def fM_sortOf_26 (N : Nat)  (l0 : Int32) (h : zH) : Option (Int32 × zH) := cond (z_cmp .lt l0 (Int32.ofInt 48)) (fM_sortOf_42 N  l0 h) (cond (z_cmp .gt l0 (Int32.ofInt 57)) (fM_sortOf_42 N  l0 h) (fM_sortOf_64 N  (Int32.ofInt 3) h))
theorem sfM_sortOf_26 {xs : List Int32} (N : Nat)   (l0 : Int32) (h : zH) (r : Int32 × zH) (e : fM_sortOf_26 N  l0 h = some r) : zt xs (1) 196 26 [(0, .int l0)] [] h 0 0 (zQ cI r) := by
  have hy := mfM_sortOf_26
  unfold fM_sortOf_26 at e
  exact zl hy 1 (pc2 := 27) (lv2 := [(0, .int l0)]) (st2 := [.int l0]) rfl <| zx_bip hy (c := 48) rfl (by decide) <| zx_c hy rfl e (fun _ e => zt_sub (z_fc rfl (z_fn)) <| sfM_sortOf_42 N   l0 h _ e) (fun _ e => zl hy 1 (pc2 := 33) (lv2 := [(0, .int l0)]) (st2 := [.int l0]) rfl <| zx_bip hy (c := 57) rfl (by decide) <| zx_c hy rfl e (fun _ e => zt_sub (z_fc rfl (z_fn)) <| sfM_sortOf_42 N   l0 h _ e) (fun _ e => zl hy 2 (pc2 := 64) (lv2 := [(0, .int l0)]) (st2 := [.int (Int32.ofInt 3)]) rfl <| zt_sub (z_fn) <| sfM_sortOf_64 N   (Int32.ofInt 3) h _ e))
def fM_sortOf (N : Nat) (l0 : Int32) (h : zH) : Option (Int32 × zH) := cond (z_cmp .ne l0 (Int32.ofInt 59)) (cond (z_cmp .lt l0 (Int32.ofInt 97)) (fM_sortOf_26 N  l0 h) (cond (z_cmp .gt l0 (Int32.ofInt 122)) (fM_sortOf_26 N  l0 h) (fM_sortOf_64 N  (Int32.ofInt 2) h))) (fM_sortOf_64 N  (Int32.ofInt 1) h)
theorem sfM_sortOf {xs : List Int32} (N : Nat) (l0 : Int32) (h : zH) (r : Int32 × zH) (e : fM_sortOf N l0 h = some r) : zt xs (1) 196 0 [(0, .int l0)] [] h 0 0 (zQ cI r) := by
  have hy := mfM_sortOf_m
  unfold fM_sortOf at e
  exact zl hy 1 (pc2 := 1) (lv2 := [(0, .int l0)]) (st2 := [.int l0]) rfl <| zx_bip hy (c := 59) rfl (by decide) <| zx_c hy rfl e (fun _ e => zl hy 1 (pc2 := 11) (lv2 := [(0, .int l0)]) (st2 := [.int l0]) rfl <| zx_bip hy (c := 97) rfl (by decide) <| zx_c hy rfl e (fun _ e => zt_sub (z_fc rfl (z_fn)) <| sfM_sortOf_26 N   l0 h _ e) (fun _ e => zl hy 1 (pc2 := 17) (lv2 := [(0, .int l0)]) (st2 := [.int l0]) rfl <| zx_bip hy (c := 122) rfl (by decide) <| zx_c hy rfl e (fun _ e => zt_sub (z_fc rfl (z_fn)) <| sfM_sortOf_26 N   l0 h _ e) (fun _ e => zl hy 2 (pc2 := 64) (lv2 := [(0, .int l0)]) (st2 := [.int (Int32.ofInt 2)]) rfl <| zt_sub (z_fn) <| sfM_sortOf_64 N   (Int32.ofInt 2) h _ e))) (fun _ e => zl hy 2 (pc2 := 64) (lv2 := [(0, .int l0)]) (st2 := [.int (Int32.ofInt 1)]) rfl <| zt_sub (z_fn) <| sfM_sortOf_64 N   (Int32.ofInt 1) h _ e)
/-- LyndonBenchModel.next()V -/
theorem mfM_next : z_me 197 zc_197 2 [] none := ⟨z_me0 rfl, rfl, rfl, rfl⟩
abbrev zC_197_207 : List zE := [(207, .iload_n 1, 1, 0, 0), (208, .aload_n 0, 1, 0, 0), (209, .getfield 152, 3, 5, 20), (212, .if_icmp .ge 38, 3, 250, 0), (215, .aload_n 0, 1, 0, 0), (216, .getfield 158, 3, 5, 18), (219, .iconst 3, 1, 0, 0), (220, .if_icmp .ne 30, 3, 250, 0), (223, .aload_n 0, 1, 0, 0), (224, .bipush 10, 2, 0, 0), (226, .aload_n 0, 1, 0, 0), (227, .getfield 164, 3, 5, 21), (230, .imul, 1, 0, 0), (231, .aload_n 0, 1, 0, 0), (232, .getfield 25, 3, 5, 7), (235, .iload_n 1, 1, 0, 0), (236, .iaload, 1, 0, 0), (237, .iadd, 1, 0, 0), (238, .bipush 48, 2, 0, 0), (240, .isub, 1, 0, 0), (241, .putfield 164, 3, 5, 21), (244, .iinc 1 1, 3, 0, 0), (247, .goto (-40), 3, 207, 0), (250, .return_, 1, 0, 0)]
theorem mfM_next_207 : z_me 197 zC_197_207 2 [] none := ⟨z_me1 (cd := zc_197) rfl (by decide +kernel), rfl, rfl, rfl⟩
abbrev zC_197_197 : List zE := [(197, .aload_n 0, 1, 0, 0), (198, .iconst 0, 1, 0, 0), (199, .putfield 164, 3, 5, 21), (202, .aload_n 0, 1, 0, 0), (203, .getfield 155, 3, 5, 19), (206, .istore_n 1, 1, 0, 0)]
theorem mfM_next_197 : z_me 197 zC_197_197 2 [] none := ⟨z_me1 (cd := zc_197) rfl (by decide +kernel), rfl, rfl, rfl⟩
abbrev zC_197_170 : List zE := [(170, .aload_n 0, 1, 0, 0), (171, .getfield 158, 3, 5, 18), (174, .iconst 3, 1, 0, 0), (175, .if_icmp .ne 22, 3, 197, 0), (178, .aload_n 0, 1, 0, 0), (179, .getfield 152, 3, 5, 20), (182, .aload_n 0, 1, 0, 0), (183, .getfield 155, 3, 5, 19), (186, .isub, 1, 0, 0), (187, .iconst 3, 1, 0, 0), (188, .if_icmp .le 9, 3, 197, 0), (191, .aload_n 0, 1, 0, 0), (192, .bipush 6, 2, 0, 0), (194, .putfield 158, 3, 5, 18)]
theorem mfM_next_170 : z_me 197 zC_197_170 2 [] none := ⟨z_me1 (cd := zc_197) rfl (by decide +kernel), rfl, rfl, rfl⟩
abbrev zC_197_127 : List zE := [(127, .aload_n 0, 1, 0, 0), (128, .getfield 152, 3, 5, 20), (131, .aload_n 0, 1, 0, 0), (132, .getfield 145, 3, 5, 11), (135, .if_icmp .ge 35, 3, 170, 0), (138, .aload_n 0, 1, 0, 0), (139, .getfield 25, 3, 5, 7), (142, .aload_n 0, 1, 0, 0), (143, .getfield 152, 3, 5, 20), (146, .iaload, 1, 0, 0), (147, .invokestatic 161, 3, 196, 1), (150, .aload_n 0, 1, 0, 0), (151, .getfield 158, 3, 5, 18), (154, .if_icmp .ne 16, 3, 170, 0), (157, .aload_n 0, 1, 0, 0), (158, .dup, 1, 0, 0), (159, .getfield 152, 3, 5, 20), (162, .iconst 1, 1, 0, 0), (163, .iadd, 1, 0, 0), (164, .putfield 152, 3, 5, 20), (167, .goto (-56), 3, 111, 0)]
theorem mfM_next_127 : z_me 197 zC_197_127 2 [] none := ⟨z_me1 (cd := zc_197) rfl (by decide +kernel), rfl, rfl, rfl⟩
abbrev zC_197_111 : List zE := [(111, .aload_n 0, 1, 0, 0), (112, .getfield 158, 3, 5, 18), (115, .iconst 2, 1, 0, 0), (116, .if_icmp .eq 11, 3, 127, 0), (119, .aload_n 0, 1, 0, 0), (120, .getfield 158, 3, 5, 18), (123, .iconst 3, 1, 0, 0), (124, .if_icmp .ne 46, 3, 170, 0)]
theorem mfM_next_111 : z_me 197 zC_197_111 2 [] none := ⟨z_me1 (cd := zc_197) rfl (by decide +kernel), rfl, rfl, rfl⟩
abbrev zC_197_60 : List zE := [(60, .aload_n 0, 1, 0, 0), (61, .aload_n 0, 1, 0, 0), (62, .getfield 155, 3, 5, 19), (65, .putfield 152, 3, 5, 20), (68, .aload_n 0, 1, 0, 0), (69, .getfield 155, 3, 5, 19), (72, .aload_n 0, 1, 0, 0), (73, .getfield 145, 3, 5, 11), (76, .if_icmp .ne 9, 3, 85, 0), (79, .aload_n 0, 1, 0, 0), (80, .iconst 0, 1, 0, 0), (81, .putfield 158, 3, 5, 18), (84, .return_, 1, 0, 0), (85, .aload_n 0, 1, 0, 0), (86, .aload_n 0, 1, 0, 0), (87, .getfield 25, 3, 5, 7), (90, .aload_n 0, 1, 0, 0), (91, .getfield 155, 3, 5, 19), (94, .iaload, 1, 0, 0), (95, .invokestatic 161, 3, 196, 1), (98, .putfield 158, 3, 5, 18), (101, .aload_n 0, 1, 0, 0), (102, .dup, 1, 0, 0), (103, .getfield 152, 3, 5, 20), (106, .iconst 1, 1, 0, 0), (107, .iadd, 1, 0, 0), (108, .putfield 152, 3, 5, 20)]
theorem mfM_next_60 : z_me 197 zC_197_60 2 [] none := ⟨z_me1 (cd := zc_197) rfl (by decide +kernel), rfl, rfl, rfl⟩
abbrev zC_197_47 : List zE := [(47, .aload_n 0, 1, 0, 0), (48, .dup, 1, 0, 0), (49, .getfield 155, 3, 5, 19), (52, .iconst 1, 1, 0, 0), (53, .iadd, 1, 0, 0), (54, .putfield 155, 3, 5, 19), (57, .goto (-49), 3, 8, 0)]
theorem mfM_next_47 : z_me 197 zC_197_47 2 [] none := ⟨z_me1 (cd := zc_197) rfl (by decide +kernel), rfl, rfl, rfl⟩
abbrev zC_197_8 : List zE := [(8, .aload_n 0, 1, 0, 0), (9, .getfield 155, 3, 5, 19), (12, .aload_n 0, 1, 0, 0), (13, .getfield 145, 3, 5, 11), (16, .if_icmp .ge 44, 3, 60, 0), (19, .aload_n 0, 1, 0, 0), (20, .getfield 25, 3, 5, 7), (23, .aload_n 0, 1, 0, 0), (24, .getfield 155, 3, 5, 19), (27, .iaload, 1, 0, 0), (28, .bipush 32, 2, 0, 0), (30, .if_icmp .eq 17, 3, 47, 0), (33, .aload_n 0, 1, 0, 0), (34, .getfield 25, 3, 5, 7), (37, .aload_n 0, 1, 0, 0), (38, .getfield 155, 3, 5, 19), (41, .iaload, 1, 0, 0), (42, .bipush 10, 2, 0, 0), (44, .if_icmp .ne 16, 3, 60, 0)]
theorem mfM_next_8 : z_me 197 zC_197_8 2 [] none := ⟨z_me1 (cd := zc_197) rfl (by decide +kernel), rfl, rfl, rfl⟩
abbrev zC_197_m : List zE := [(0, .aload_n 0, 1, 0, 0), (1, .aload_n 0, 1, 0, 0), (2, .getfield 152, 3, 5, 20), (5, .putfield 155, 3, 5, 19)]
theorem mfM_next_m : z_me 197 zC_197_m 2 [] none := ⟨z_me1 (cd := zc_197) rfl (by decide +kernel), rfl, rfl, rfl⟩
def fM_next_207 (N : Nat) : Nat → Nat → Int32 → zH → Option (Unit × zH)
  | 0, _, _, _ => none
  | n + 1, l0, l1, h => b1 (fI h l0 5 20) fun x23 => cond (z_cmp .ge l1 x23) (some ((), h)) (b1 (fI h l0 5 18) fun x24 => cond (z_cmp .ne x24 (Int32.ofInt 3)) (some ((), h)) (b1 (fI h l0 5 21) fun x25 => b1 (fR h l0 5 7) fun x26 => b1 (fAI h x26 100 l1) fun x27 => b1 (fS h l0 5 21 (.int ((((Int32.ofInt 10) * x25) + x27) - (Int32.ofInt 48)))) fun h28 => fM_next_207 N n  l0 (l1 + Int32.ofInt 1) h28))
theorem sfM_next_207 {xs : List Int32} (N : Nat)   : ∀ (n : Nat) (l0 : Nat) (l1 : Int32) (h : zH) (r : Unit × zH), fM_next_207 N n  l0 l1 h = some r → zt xs (2) 197 207 [(0, .ref l0), (1, .int l1)] [] h 0 0 (zQ cV r) := by
  have hy := mfM_next_207
  intro n
  induction n with
  | zero =>
    intro l0 l1 h r e
    rw [fM_next_207] at e
    cases e
  | succ n ih =>
    intro l0 l1 h r e
    rw [fM_next_207] at e
    exact zl hy 2 (pc2 := 209) (lv2 := [(0, .ref l0), (1, .int l1)]) (st2 := [.ref l0, .int l1]) rfl <| zx_gI hy rfl e fun x23 _ e => zx_c hy rfl e (fun _ e => zx_retV hy rfl rfl e) (fun _ e => zl hy 1 (pc2 := 216) (lv2 := [(0, .ref l0), (1, .int l1)]) (st2 := [.ref l0]) rfl <| zx_gI hy rfl e fun x24 _ e => zl hy 1 (pc2 := 220) (lv2 := [(0, .ref l0), (1, .int l1)]) (st2 := [.int (Int32.ofInt 3), .int x24]) rfl <| zx_c hy rfl e (fun _ e => zx_retV hy rfl rfl e) (fun _ e => zl hy 1 (pc2 := 224) (lv2 := [(0, .ref l0), (1, .int l1)]) (st2 := [.ref l0]) rfl <| zx_bip hy (c := 10) rfl (by decide) <| zl hy 1 (pc2 := 227) (lv2 := [(0, .ref l0), (1, .int l1)]) (st2 := [.ref l0, .int (Int32.ofInt 10), .ref l0]) rfl <| zx_gI hy rfl e fun x25 _ e => zl hy 2 (pc2 := 232) (lv2 := [(0, .ref l0), (1, .int l1)]) (st2 := [.ref l0, .int ((Int32.ofInt 10) * x25), .ref l0]) rfl <| zx_gR hy rfl e fun x26 _ e => zl hy 1 (pc2 := 236) (lv2 := [(0, .ref l0), (1, .int l1)]) (st2 := [.int l1, .ref x26, .int ((Int32.ofInt 10) * x25), .ref l0]) rfl <| zx_aI hy (j := .iaload) (Or.inl ⟨rfl, rfl⟩) rfl e fun x27 _ e => zl hy 1 (pc2 := 238) (lv2 := [(0, .ref l0), (1, .int l1)]) (st2 := [.int (((Int32.ofInt 10) * x25) + x27), .ref l0]) rfl <| zx_bip hy (c := 48) rfl (by decide) <| zl hy 1 (pc2 := 241) (lv2 := [(0, .ref l0), (1, .int l1)]) (st2 := [.int ((((Int32.ofInt 10) * x25) + x27) - (Int32.ofInt 48)), .ref l0]) rfl <| zx_pf hy rfl e (rfl) fun h28 _ e => zl hy 2 (pc2 := 207) (lv2 := [(1, .int (l1 + Int32.ofInt 1)), (0, .ref l0)]) (st2 := []) rfl <| zt_sub (z_fc rfl (z_fc rfl (z_fn))) <| ih l0 (l1 + Int32.ofInt 1) h28 _ e))
def fM_next_197 (N : Nat)  (l0 : Nat) (h : zH) : Option (Unit × zH) := b1 (fS h l0 5 21 (.int (Int32.ofInt 0))) fun h21 => b1 (fI h21 l0 5 19) fun x22 => fM_next_207 N N  l0 x22 h21
theorem sfM_next_197 {xs : List Int32} (N : Nat)   (l0 : Nat) (h : zH) (r : Unit × zH) (e : fM_next_197 N  l0 h = some r) : zt xs (2) 197 197 [(0, .ref l0)] [] h 0 0 (zQ cV r) := by
  have hy := mfM_next_197
  unfold fM_next_197 at e
  exact zl hy 2 (pc2 := 199) (lv2 := [(0, .ref l0)]) (st2 := [.int (Int32.ofInt 0), .ref l0]) rfl <| zx_pf hy rfl e (rfl) fun h21 _ e => zl hy 1 (pc2 := 203) (lv2 := [(0, .ref l0)]) (st2 := [.ref l0]) rfl <| zx_gI hy rfl e fun x22 _ e => zl hy 1 (pc2 := 207) (lv2 := [(1, .int x22), (0, .ref l0)]) (st2 := []) rfl <| zt_sub (z_fc rfl (z_fc rfl (z_fn))) <| sfM_next_207 N   N l0 x22 h21 _ e
def fM_next_170 (N : Nat)  (l0 : Nat) (h : zH) : Option (Unit × zH) := b1 (fI h l0 5 18) fun x20 => cond (z_cmp .ne x20 (Int32.ofInt 3)) (fM_next_197 N  l0 h) (b1 (fI h l0 5 20) fun x21 => b1 (fI h l0 5 19) fun x22 => cond (z_cmp .le (x21 - x22) (Int32.ofInt 3)) (fM_next_197 N  l0 h) (b1 (fS h l0 5 18 (.int (Int32.ofInt 6))) fun h23 => fM_next_197 N  l0 h23))
theorem sfM_next_170 {xs : List Int32} (N : Nat)   (l0 : Nat) (h : zH) (r : Unit × zH) (e : fM_next_170 N  l0 h = some r) : zt xs (2) 197 170 [(0, .ref l0)] [] h 0 0 (zQ cV r) := by
  have hy := mfM_next_170
  unfold fM_next_170 at e
  exact zl hy 1 (pc2 := 171) (lv2 := [(0, .ref l0)]) (st2 := [.ref l0]) rfl <| zx_gI hy rfl e fun x20 _ e => zl hy 1 (pc2 := 175) (lv2 := [(0, .ref l0)]) (st2 := [.int (Int32.ofInt 3), .int x20]) rfl <| zx_c hy rfl e (fun _ e => zt_sub (z_fc rfl (z_fn)) <| sfM_next_197 N   l0 h _ e) (fun _ e => zl hy 1 (pc2 := 179) (lv2 := [(0, .ref l0)]) (st2 := [.ref l0]) rfl <| zx_gI hy rfl e fun x21 _ e => zl hy 1 (pc2 := 183) (lv2 := [(0, .ref l0)]) (st2 := [.ref l0, .int x21]) rfl <| zx_gI hy rfl e fun x22 _ e => zl hy 2 (pc2 := 188) (lv2 := [(0, .ref l0)]) (st2 := [.int (Int32.ofInt 3), .int (x21 - x22)]) rfl <| zx_c hy rfl e (fun _ e => zt_sub (z_fc rfl (z_fn)) <| sfM_next_197 N   l0 h _ e) (fun _ e => zl hy 1 (pc2 := 192) (lv2 := [(0, .ref l0)]) (st2 := [.ref l0]) rfl <| zx_bip hy (c := 6) rfl (by decide) <| zx_pf hy rfl e (rfl) fun h23 _ e => zt_sub (z_fc rfl (z_fn)) <| sfM_next_197 N   l0 h23 _ e))
def fM_next_127 (N : Nat) (k111 : Nat → zH → Option (Unit × zH)) (l0 : Nat) (h : zH) : Option (Unit × zH) := b1 (fI h l0 5 20) fun x18 => b1 (fI h l0 5 11) fun x19 => cond (z_cmp .ge x18 x19) (fM_next_170 N  l0 h) (b1 (fR h l0 5 7) fun x20 => b1 (fI h l0 5 20) fun x21 => b1 (fAI h x20 100 x21) fun x22 => b2 (fM_sortOf N x22 h) fun x23 h24 => b1 (fI h24 l0 5 18) fun x25 => cond (z_cmp .ne x23 x25) (fM_next_170 N  l0 h24) (b1 (fI h24 l0 5 20) fun x26 => b1 (fS h24 l0 5 20 (.int (x26 + (Int32.ofInt 1)))) fun h27 => k111 l0 h27))
theorem sfM_next_127 {xs : List Int32} (N : Nat) (k111 : Nat → zH → Option (Unit × zH))  (hk111 : ∀ (l0 : Nat) (h : zH) (r : Unit × zH), k111 l0 h = some r → zt xs (2) 197 111 [(0, .ref l0)] [] h 0 0 (zQ cV r)) (l0 : Nat) (h : zH) (r : Unit × zH) (e : fM_next_127 N k111 l0 h = some r) : zt xs (2) 197 127 [(0, .ref l0)] [] h 0 0 (zQ cV r) := by
  have hy := mfM_next_127
  unfold fM_next_127 at e
  exact zl hy 1 (pc2 := 128) (lv2 := [(0, .ref l0)]) (st2 := [.ref l0]) rfl <| zx_gI hy rfl e fun x18 _ e => zl hy 1 (pc2 := 132) (lv2 := [(0, .ref l0)]) (st2 := [.ref l0, .int x18]) rfl <| zx_gI hy rfl e fun x19 _ e => zx_c hy rfl e (fun _ e => zt_sub (z_fc rfl (z_fn)) <| sfM_next_170 N   l0 h _ e) (fun _ e => zl hy 1 (pc2 := 139) (lv2 := [(0, .ref l0)]) (st2 := [.ref l0]) rfl <| zx_gR hy rfl e fun x20 _ e => zl hy 1 (pc2 := 143) (lv2 := [(0, .ref l0)]) (st2 := [.ref l0, .ref x20]) rfl <| zx_gI hy rfl e fun x21 _ e => zx_aI hy (j := .iaload) (Or.inl ⟨rfl, rfl⟩) rfl e fun x22 _ e => zx_call hy (as := [.int x22]) (rest := []) (ov := (fun v => some (.int v))) (fun _ => rfl) rfl rfl (Or.inr (Or.inl rfl)) rfl rfl (Nat.le_of_ble_eq_true rfl) (Nat.le_of_ble_eq_true rfl) (fun _ _ hz => absurd rfl hz) (fun _ e => zt_deep (Nat.le_of_ble_eq_true rfl) (sfM_sortOf N x22 h _ e)) e fun x23 h24 _ e => zl hy 1 (pc2 := 151) (lv2 := [(0, .ref l0)]) (st2 := [.ref l0, .int x23]) rfl <| zx_gI hy rfl e fun x25 _ e => zx_c hy rfl e (fun _ e => zt_sub (z_fc rfl (z_fn)) <| sfM_next_170 N   l0 h24 _ e) (fun _ e => zl hy 2 (pc2 := 159) (lv2 := [(0, .ref l0)]) (st2 := [.ref l0, .ref l0]) rfl <| zx_gI hy rfl e fun x26 _ e => zl hy 2 (pc2 := 164) (lv2 := [(0, .ref l0)]) (st2 := [.int (x26 + (Int32.ofInt 1)), .ref l0]) rfl <| zx_pf hy rfl e (rfl) fun h27 _ e => zl hy 1 (pc2 := 111) (lv2 := [(0, .ref l0)]) (st2 := []) rfl <| zt_sub (z_fc rfl (z_fn)) <| hk111 l0 h27 _ e))
def fM_next_111 (N : Nat) : Nat → Nat → zH → Option (Unit × zH)
  | 0, _, _ => none
  | n + 1, l0, h => b1 (fI h l0 5 18) fun x17 => cond (z_cmp .eq x17 (Int32.ofInt 2)) (fM_next_127 N (fM_next_111 N n ) l0 h) (b1 (fI h l0 5 18) fun x18 => cond (z_cmp .ne x18 (Int32.ofInt 3)) (fM_next_170 N  l0 h) (fM_next_127 N (fM_next_111 N n ) l0 h))
theorem sfM_next_111 {xs : List Int32} (N : Nat)   : ∀ (n : Nat) (l0 : Nat) (h : zH) (r : Unit × zH), fM_next_111 N n  l0 h = some r → zt xs (2) 197 111 [(0, .ref l0)] [] h 0 0 (zQ cV r) := by
  have hy := mfM_next_111
  intro n
  induction n with
  | zero =>
    intro l0 h r e
    rw [fM_next_111] at e
    cases e
  | succ n ih =>
    intro l0 h r e
    rw [fM_next_111] at e
    exact zl hy 1 (pc2 := 112) (lv2 := [(0, .ref l0)]) (st2 := [.ref l0]) rfl <| zx_gI hy rfl e fun x17 _ e => zl hy 1 (pc2 := 116) (lv2 := [(0, .ref l0)]) (st2 := [.int (Int32.ofInt 2), .int x17]) rfl <| zx_c hy rfl e (fun _ e => zt_sub (z_fc rfl (z_fn)) <| sfM_next_127 N (fM_next_111 N n ) ih l0 h _ e) (fun _ e => zl hy 1 (pc2 := 120) (lv2 := [(0, .ref l0)]) (st2 := [.ref l0]) rfl <| zx_gI hy rfl e fun x18 _ e => zl hy 1 (pc2 := 124) (lv2 := [(0, .ref l0)]) (st2 := [.int (Int32.ofInt 3), .int x18]) rfl <| zx_c hy rfl e (fun _ e => zt_sub (z_fc rfl (z_fn)) <| sfM_next_170 N   l0 h _ e) (fun _ e => zt_sub (z_fc rfl (z_fn)) <| sfM_next_127 N (fM_next_111 N n ) ih l0 h _ e))
def fM_next_60 (N : Nat)  (l0 : Nat) (h : zH) : Option (Unit × zH) := b1 (fI h l0 5 19) fun x5 => b1 (fS h l0 5 20 (.int x5)) fun h6 => b1 (fI h6 l0 5 19) fun x7 => b1 (fI h6 l0 5 11) fun x8 => cond (z_cmp .ne x7 x8) (b1 (fR h6 l0 5 7) fun x9 => b1 (fI h6 l0 5 19) fun x10 => b1 (fAI h6 x9 100 x10) fun x11 => b2 (fM_sortOf N x11 h6) fun x12 h13 => b1 (fS h13 l0 5 18 (.int x12)) fun h14 => b1 (fI h14 l0 5 20) fun x15 => b1 (fS h14 l0 5 20 (.int (x15 + (Int32.ofInt 1)))) fun h16 => fM_next_111 N N  l0 h16) (b1 (fS h6 l0 5 18 (.int (Int32.ofInt 0))) fun h17 => some ((), h17))
theorem sfM_next_60 {xs : List Int32} (N : Nat)   (l0 : Nat) (h : zH) (r : Unit × zH) (e : fM_next_60 N  l0 h = some r) : zt xs (2) 197 60 [(0, .ref l0)] [] h 0 0 (zQ cV r) := by
  have hy := mfM_next_60
  unfold fM_next_60 at e
  exact zl hy 2 (pc2 := 62) (lv2 := [(0, .ref l0)]) (st2 := [.ref l0, .ref l0]) rfl <| zx_gI hy rfl e fun x5 _ e => zx_pf hy rfl e (rfl) fun h6 _ e => zl hy 1 (pc2 := 69) (lv2 := [(0, .ref l0)]) (st2 := [.ref l0]) rfl <| zx_gI hy rfl e fun x7 _ e => zl hy 1 (pc2 := 73) (lv2 := [(0, .ref l0)]) (st2 := [.ref l0, .int x7]) rfl <| zx_gI hy rfl e fun x8 _ e => zx_c hy rfl e (fun _ e => zl hy 2 (pc2 := 87) (lv2 := [(0, .ref l0)]) (st2 := [.ref l0, .ref l0]) rfl <| zx_gR hy rfl e fun x9 _ e => zl hy 1 (pc2 := 91) (lv2 := [(0, .ref l0)]) (st2 := [.ref l0, .ref x9, .ref l0]) rfl <| zx_gI hy rfl e fun x10 _ e => zx_aI hy (j := .iaload) (Or.inl ⟨rfl, rfl⟩) rfl e fun x11 _ e => zx_call hy (as := [.int x11]) (rest := [.ref l0]) (ov := (fun v => some (.int v))) (fun _ => rfl) rfl rfl (Or.inr (Or.inl rfl)) rfl rfl (Nat.le_of_ble_eq_true rfl) (Nat.le_of_ble_eq_true rfl) (fun _ _ hz => absurd rfl hz) (fun _ e => zt_deep (Nat.le_of_ble_eq_true rfl) (sfM_sortOf N x11 h6 _ e)) e fun x12 h13 _ e => zx_pf hy rfl e (rfl) fun h14 _ e => zl hy 2 (pc2 := 103) (lv2 := [(0, .ref l0)]) (st2 := [.ref l0, .ref l0]) rfl <| zx_gI hy rfl e fun x15 _ e => zl hy 2 (pc2 := 108) (lv2 := [(0, .ref l0)]) (st2 := [.int (x15 + (Int32.ofInt 1)), .ref l0]) rfl <| zx_pf hy rfl e (rfl) fun h16 _ e => zt_sub (z_fc rfl (z_fn)) <| sfM_next_111 N   N l0 h16 _ e) (fun _ e => zl hy 2 (pc2 := 81) (lv2 := [(0, .ref l0)]) (st2 := [.int (Int32.ofInt 0), .ref l0]) rfl <| zx_pf hy rfl e (rfl) fun h17 _ e => zx_retV hy rfl rfl e)
def fM_next_47 (N : Nat) (k8 : Nat → zH → Option (Unit × zH)) (l0 : Nat) (h : zH) : Option (Unit × zH) := b1 (fI h l0 5 19) fun x8 => b1 (fS h l0 5 19 (.int (x8 + (Int32.ofInt 1)))) fun h9 => k8 l0 h9
theorem sfM_next_47 {xs : List Int32} (N : Nat) (k8 : Nat → zH → Option (Unit × zH))  (hk8 : ∀ (l0 : Nat) (h : zH) (r : Unit × zH), k8 l0 h = some r → zt xs (2) 197 8 [(0, .ref l0)] [] h 0 0 (zQ cV r)) (l0 : Nat) (h : zH) (r : Unit × zH) (e : fM_next_47 N k8 l0 h = some r) : zt xs (2) 197 47 [(0, .ref l0)] [] h 0 0 (zQ cV r) := by
  have hy := mfM_next_47
  unfold fM_next_47 at e
  exact zl hy 2 (pc2 := 49) (lv2 := [(0, .ref l0)]) (st2 := [.ref l0, .ref l0]) rfl <| zx_gI hy rfl e fun x8 _ e => zl hy 2 (pc2 := 54) (lv2 := [(0, .ref l0)]) (st2 := [.int (x8 + (Int32.ofInt 1)), .ref l0]) rfl <| zx_pf hy rfl e (rfl) fun h9 _ e => zl hy 1 (pc2 := 8) (lv2 := [(0, .ref l0)]) (st2 := []) rfl <| zt_sub (z_fc rfl (z_fn)) <| hk8 l0 h9 _ e
def fM_next_8 (N : Nat) : Nat → Nat → zH → Option (Unit × zH)
  | 0, _, _ => none
  | n + 1, l0, h => b1 (fI h l0 5 19) fun x3 => b1 (fI h l0 5 11) fun x4 => cond (z_cmp .ge x3 x4) (fM_next_60 N  l0 h) (b1 (fR h l0 5 7) fun x5 => b1 (fI h l0 5 19) fun x6 => b1 (fAI h x5 100 x6) fun x7 => cond (z_cmp .eq x7 (Int32.ofInt 32)) (fM_next_47 N (fM_next_8 N n ) l0 h) (b1 (fR h l0 5 7) fun x8 => b1 (fI h l0 5 19) fun x9 => b1 (fAI h x8 100 x9) fun x10 => cond (z_cmp .ne x10 (Int32.ofInt 10)) (fM_next_60 N  l0 h) (fM_next_47 N (fM_next_8 N n ) l0 h)))
theorem sfM_next_8 {xs : List Int32} (N : Nat)   : ∀ (n : Nat) (l0 : Nat) (h : zH) (r : Unit × zH), fM_next_8 N n  l0 h = some r → zt xs (2) 197 8 [(0, .ref l0)] [] h 0 0 (zQ cV r) := by
  have hy := mfM_next_8
  intro n
  induction n with
  | zero =>
    intro l0 h r e
    rw [fM_next_8] at e
    cases e
  | succ n ih =>
    intro l0 h r e
    rw [fM_next_8] at e
    exact zl hy 1 (pc2 := 9) (lv2 := [(0, .ref l0)]) (st2 := [.ref l0]) rfl <| zx_gI hy rfl e fun x3 _ e => zl hy 1 (pc2 := 13) (lv2 := [(0, .ref l0)]) (st2 := [.ref l0, .int x3]) rfl <| zx_gI hy rfl e fun x4 _ e => zx_c hy rfl e (fun _ e => zt_sub (z_fc rfl (z_fn)) <| sfM_next_60 N   l0 h _ e) (fun _ e => zl hy 1 (pc2 := 20) (lv2 := [(0, .ref l0)]) (st2 := [.ref l0]) rfl <| zx_gR hy rfl e fun x5 _ e => zl hy 1 (pc2 := 24) (lv2 := [(0, .ref l0)]) (st2 := [.ref l0, .ref x5]) rfl <| zx_gI hy rfl e fun x6 _ e => zx_aI hy (j := .iaload) (Or.inl ⟨rfl, rfl⟩) rfl e fun x7 _ e => zx_bip hy (c := 32) rfl (by decide) <| zx_c hy rfl e (fun _ e => zt_sub (z_fc rfl (z_fn)) <| sfM_next_47 N (fM_next_8 N n ) ih l0 h _ e) (fun _ e => zl hy 1 (pc2 := 34) (lv2 := [(0, .ref l0)]) (st2 := [.ref l0]) rfl <| zx_gR hy rfl e fun x8 _ e => zl hy 1 (pc2 := 38) (lv2 := [(0, .ref l0)]) (st2 := [.ref l0, .ref x8]) rfl <| zx_gI hy rfl e fun x9 _ e => zx_aI hy (j := .iaload) (Or.inl ⟨rfl, rfl⟩) rfl e fun x10 _ e => zx_bip hy (c := 10) rfl (by decide) <| zx_c hy rfl e (fun _ e => zt_sub (z_fc rfl (z_fn)) <| sfM_next_60 N   l0 h _ e) (fun _ e => zt_sub (z_fc rfl (z_fn)) <| sfM_next_47 N (fM_next_8 N n ) ih l0 h _ e)))
def fM_next (N : Nat) (l0 : Nat) (h : zH) : Option (Unit × zH) := cond (fT h l0 5) (b1 (fI h l0 5 20) fun x1 => b1 (fS h l0 5 19 (.int x1)) fun h2 => fM_next_8 N N  l0 h2) none
theorem sfM_next {xs : List Int32} (N : Nat) (l0 : Nat) (h : zH) (r : Unit × zH) (e : fM_next N l0 h = some r) : zt xs (2) 197 0 [(0, .ref l0)] [] h 0 0 (zQ cV r) := by
  have hy := mfM_next_m
  unfold fM_next at e
  replace e := (cond_some e).2
  exact zl hy 2 (pc2 := 2) (lv2 := [(0, .ref l0)]) (st2 := [.ref l0, .ref l0]) rfl <| zx_gI hy rfl e fun x1 _ e => zx_pf hy rfl e (rfl) fun h2 _ e => zt_sub (z_fc rfl (z_fn)) <| sfM_next_8 N   N l0 h2 _ e
theorem rfM_next (N : Nat) (l0 : Nat) (h : zH) (r : Unit × zH) (e : fM_next N l0 h = some r) : fT h l0 5 = true := by
  unfold fM_next at e
  exact (cond_some e).1
/-- LyndonBenchModel.says(Ljava/lang/String;)Z -/
theorem mfM_says : z_me 198 zc_198 3 [] (some .boolean) := ⟨z_me0 rfl, rfl, rfl, rfl⟩
abbrev zC_198_24 : List zE := [(24, .iconst 0, 1, 0, 0), (25, .ireturn, 1, 0, 0)]
theorem mfM_says_24 : z_me 198 zC_198_24 3 [] (some .boolean) := ⟨z_me1 (cd := zc_198) rfl (by decide +kernel), rfl, rfl, rfl⟩
abbrev zC_198_28 : List zE := [(28, .iload_n 2, 1, 0, 0), (29, .aload_n 1, 1, 0, 0), (30, .invokevirtual 140, 3, 294, 0), (33, .if_icmp .ge 30, 3, 63, 0), (36, .aload_n 0, 1, 0, 0), (37, .getfield 25, 3, 5, 7), (40, .aload_n 0, 1, 0, 0), (41, .getfield 155, 3, 5, 19), (44, .iload_n 2, 1, 0, 0), (45, .iadd, 1, 0, 0), (46, .iaload, 1, 0, 0), (47, .aload_n 1, 1, 0, 0), (48, .iload_n 2, 1, 0, 0), (49, .invokevirtual 148, 3, 295, 1), (52, .if_icmp .eq 5, 3, 57, 0), (55, .iconst 0, 1, 0, 0), (56, .ireturn, 1, 0, 0), (57, .iinc 2 1, 3, 0, 0), (60, .goto (-32), 3, 28, 0), (63, .iconst 1, 1, 0, 0), (64, .ireturn, 1, 0, 0)]
theorem mfM_says_28 : z_me 198 zC_198_28 3 [] (some .boolean) := ⟨z_me1 (cd := zc_198) rfl (by decide +kernel), rfl, rfl, rfl⟩
abbrev zC_198_m : List zE := [(0, .aload_n 0, 1, 0, 0), (1, .getfield 158, 3, 5, 18), (4, .iconst 2, 1, 0, 0), (5, .if_icmp .ne 19, 3, 24, 0), (8, .aload_n 0, 1, 0, 0), (9, .getfield 152, 3, 5, 20), (12, .aload_n 0, 1, 0, 0), (13, .getfield 155, 3, 5, 19), (16, .isub, 1, 0, 0), (17, .aload_n 1, 1, 0, 0), (18, .invokevirtual 140, 3, 294, 0), (21, .if_icmp .eq 5, 3, 26, 0), (26, .iconst 0, 1, 0, 0), (27, .istore_n 2, 1, 0, 0)]
theorem mfM_says_m : z_me 198 zC_198_m 3 [] (some .boolean) := ⟨z_me1 (cd := zc_198) rfl (by decide +kernel), rfl, rfl, rfl⟩
def fM_says_24 (N : Nat)   (h : zH) : Option (Int32 × zH) := some ((Int32.ofInt 0), h)
theorem sfM_says_24 {xs : List Int32} (N : Nat)    (h : zH) (r : Int32 × zH) (e : fM_says_24 N   h = some r) : zt xs (5) 198 24 [] [] h 0 0 (zQ cI r) := by
  have hy := mfM_says_24
  unfold fM_says_24 at e
  exact zl hy 1 (pc2 := 25) (lv2 := []) (st2 := [.int (Int32.ofInt 0)]) rfl <| zx_ret hy (v := .int (Int32.ofInt 0)) rfl rfl (by decide) rfl e
def fM_says_28 (N : Nat) : Nat → Nat → Nat → Int32 → zH → Option (Int32 × zH)
  | 0, _, _, _, _ => none
  | n + 1, l0, l1, l2, h => b2 (fJ_length N l1 h) fun x6 h7 => cond (z_cmp .ge l2 x6) (some ((Int32.ofInt 1), h7)) (b1 (fR h7 l0 5 7) fun x8 => b1 (fI h7 l0 5 19) fun x9 => b1 (fAI h7 x8 100 (x9 + l2)) fun x10 => b2 (fJ_charAt N l1 l2 h7) fun x11 h12 => cond (z_cmp .eq x10 x11) (fM_says_28 N n  l0 l1 (l2 + Int32.ofInt 1) h12) (some ((Int32.ofInt 0), h12)))
theorem sfM_says_28 {xs : List Int32} (N : Nat)   : ∀ (n : Nat) (l0 : Nat) (l1 : Nat) (l2 : Int32) (h : zH) (r : Int32 × zH), fM_says_28 N n  l0 l1 l2 h = some r → zt xs (5) 198 28 [(0, .ref l0), (1, .ref l1), (2, .int l2)] [] h 0 0 (zQ cI r) := by
  have hy := mfM_says_28
  intro n
  induction n with
  | zero =>
    intro l0 l1 l2 h r e
    rw [fM_says_28] at e
    cases e
  | succ n ih =>
    intro l0 l1 l2 h r e
    rw [fM_says_28] at e
    exact zl hy 2 (pc2 := 30) (lv2 := [(0, .ref l0), (1, .ref l1), (2, .int l2)]) (st2 := [.ref l1, .int l2]) rfl <| zx_call hy (as := [.ref l1]) (rest := [.int l2]) (ov := (fun v => some (.int v))) (fun _ => rfl) rfl rfl (Or.inl rfl) rfl rfl (Nat.le_of_ble_eq_true rfl) (Nat.le_of_ble_eq_true rfl) (fun _ e _ => z_rcvT (rfJ_length N l1 h _ e)) (fun _ e => zt_deep (Nat.le_of_ble_eq_true rfl) (sfJ_length N l1 h _ e)) e fun x6 h7 _ e => zx_c hy rfl e (fun _ e => zl hy 1 (pc2 := 64) (lv2 := [(0, .ref l0), (1, .ref l1), (2, .int l2)]) (st2 := [.int (Int32.ofInt 1)]) rfl <| zx_ret hy (v := .int (Int32.ofInt 1)) rfl rfl (by decide) rfl e) (fun _ e => zl hy 1 (pc2 := 37) (lv2 := [(0, .ref l0), (1, .ref l1), (2, .int l2)]) (st2 := [.ref l0]) rfl <| zx_gR hy rfl e fun x8 _ e => zl hy 1 (pc2 := 41) (lv2 := [(0, .ref l0), (1, .ref l1), (2, .int l2)]) (st2 := [.ref l0, .ref x8]) rfl <| zx_gI hy rfl e fun x9 _ e => zl hy 2 (pc2 := 46) (lv2 := [(0, .ref l0), (1, .ref l1), (2, .int l2)]) (st2 := [.int (x9 + l2), .ref x8]) rfl <| zx_aI hy (j := .iaload) (Or.inl ⟨rfl, rfl⟩) rfl e fun x10 _ e => zl hy 2 (pc2 := 49) (lv2 := [(0, .ref l0), (1, .ref l1), (2, .int l2)]) (st2 := [.int l2, .ref l1, .int x10]) rfl <| zx_call hy (as := [.ref l1, .int l2]) (rest := [.int x10]) (ov := (fun v => some (.int v))) (fun _ => rfl) rfl rfl (Or.inl rfl) rfl rfl (Nat.le_of_ble_eq_true rfl) (Nat.le_of_ble_eq_true rfl) (fun _ e _ => z_rcvT (rfJ_charAt N l1 l2 h7 _ e)) (fun _ e => zt_deep (Nat.le_of_ble_eq_true rfl) (sfJ_charAt N l1 l2 h7 _ e)) e fun x11 h12 _ e => zx_c hy rfl e (fun _ e => zl hy 2 (pc2 := 28) (lv2 := [(2, .int (l2 + Int32.ofInt 1)), (0, .ref l0), (1, .ref l1)]) (st2 := []) rfl <| zt_sub (z_fc rfl (z_fc rfl (z_fc rfl (z_fn)))) <| ih l0 l1 (l2 + Int32.ofInt 1) h12 _ e) (fun _ e => zl hy 1 (pc2 := 56) (lv2 := [(0, .ref l0), (1, .ref l1), (2, .int l2)]) (st2 := [.int (Int32.ofInt 0)]) rfl <| zx_ret hy (v := .int (Int32.ofInt 0)) rfl rfl (by decide) rfl e))
def fM_says (N : Nat) (l0 : Nat) (l1 : Nat) (h : zH) : Option (Int32 × zH) := cond (fT h l0 5) (b1 (fI h l0 5 18) fun x1 => cond (z_cmp .ne x1 (Int32.ofInt 2)) (fM_says_24 N   h) (b1 (fI h l0 5 20) fun x2 => b1 (fI h l0 5 19) fun x3 => b2 (fJ_length N l1 h) fun x4 h5 => cond (z_cmp .eq (x2 - x3) x4) (fM_says_28 N N  l0 l1 (Int32.ofInt 0) h5) (fM_says_24 N   h5))) none
theorem sfM_says {xs : List Int32} (N : Nat) (l0 : Nat) (l1 : Nat) (h : zH) (r : Int32 × zH) (e : fM_says N l0 l1 h = some r) : zt xs (5) 198 0 [(0, .ref l0), (1, .ref l1)] [] h 0 0 (zQ cI r) := by
  have hy := mfM_says_m
  unfold fM_says at e
  replace e := (cond_some e).2
  exact zl hy 1 (pc2 := 1) (lv2 := [(0, .ref l0), (1, .ref l1)]) (st2 := [.ref l0]) rfl <| zx_gI hy rfl e fun x1 _ e => zl hy 1 (pc2 := 5) (lv2 := [(0, .ref l0), (1, .ref l1)]) (st2 := [.int (Int32.ofInt 2), .int x1]) rfl <| zx_c hy rfl e (fun _ e => zt_sub (z_fn) <| sfM_says_24 N    h _ e) (fun _ e => zl hy 1 (pc2 := 9) (lv2 := [(0, .ref l0), (1, .ref l1)]) (st2 := [.ref l0]) rfl <| zx_gI hy rfl e fun x2 _ e => zl hy 1 (pc2 := 13) (lv2 := [(0, .ref l0), (1, .ref l1)]) (st2 := [.ref l0, .int x2]) rfl <| zx_gI hy rfl e fun x3 _ e => zl hy 2 (pc2 := 18) (lv2 := [(0, .ref l0), (1, .ref l1)]) (st2 := [.ref l1, .int (x2 - x3)]) rfl <| zx_call hy (as := [.ref l1]) (rest := [.int (x2 - x3)]) (ov := (fun v => some (.int v))) (fun _ => rfl) rfl rfl (Or.inl rfl) rfl rfl (Nat.le_of_ble_eq_true rfl) (Nat.le_of_ble_eq_true rfl) (fun _ e _ => z_rcvT (rfJ_length N l1 h _ e)) (fun _ e => zt_deep (Nat.le_of_ble_eq_true rfl) (sfJ_length N l1 h _ e)) e fun x4 h5 _ e => zx_c hy rfl e (fun _ e => zl hy 2 (pc2 := 28) (lv2 := [(2, .int (Int32.ofInt 0)), (0, .ref l0), (1, .ref l1)]) (st2 := []) rfl <| zt_sub (z_fc rfl (z_fc rfl (z_fc rfl (z_fn)))) <| sfM_says_28 N   N l0 l1 (Int32.ofInt 0) h5 _ e) (fun _ e => zt_sub (z_fn) <| sfM_says_24 N    h5 _ e))
theorem rfM_says (N : Nat) (l0 : Nat) (l1 : Nat) (h : zH) (r : Int32 × zH) (e : fM_says N l0 l1 h = some r) : fT h l0 5 = true := by
  unfold fM_says at e
  exact (cond_some e).1
/-- LyndonBenchModel.fail(I)Z -/
theorem mfM_fail : z_me 199 zc_199 2 [] (some .boolean) := ⟨z_me0 rfl, rfl, rfl, rfl⟩
def fM_fail_20 (N : Nat)   (h : zH) : Option (Int32 × zH) := some ((Int32.ofInt 0), h)
theorem sfM_fail_20 {xs : List Int32} (N : Nat)    (h : zH) (r : Int32 × zH) (e : fM_fail_20 N   h = some r) : zt xs (1) 199 20 [] [] h 0 0 (zQ cI r) := by
  have hy := mfM_fail
  unfold fM_fail_20 at e
  exact zl hy 1 (pc2 := 21) (lv2 := []) (st2 := [.int (Int32.ofInt 0)]) rfl <| zx_ret hy (v := .int (Int32.ofInt 0)) rfl rfl (by decide) rfl e
def fM_fail (N : Nat) (l0 : Nat) (l1 : Int32) (h : zH) : Option (Int32 × zH) := cond (fT h l0 5) (b1 (fI h l0 5 12) fun x1 => cond (z_cmp .ne x1 (Int32.ofInt 0)) (fM_fail_20 N   h) (b1 (fS h l0 5 12 (.int l1)) fun h2 => b1 (fI h2 l0 5 19) fun x3 => b1 (fS h2 l0 5 13 (.int x3)) fun h4 => fM_fail_20 N   h4)) none
theorem sfM_fail {xs : List Int32} (N : Nat) (l0 : Nat) (l1 : Int32) (h : zH) (r : Int32 × zH) (e : fM_fail N l0 l1 h = some r) : zt xs (1) 199 0 [(0, .ref l0), (1, .int l1)] [] h 0 0 (zQ cI r) := by
  have hy := mfM_fail
  unfold fM_fail at e
  replace e := (cond_some e).2
  exact zl hy 1 (pc2 := 1) (lv2 := [(0, .ref l0), (1, .int l1)]) (st2 := [.ref l0]) rfl <| zx_gI hy rfl e fun x1 _ e => zx_c0 hy rfl e (fun _ e => zt_sub (z_fn) <| sfM_fail_20 N    h _ e) (fun _ e => zl hy 2 (pc2 := 9) (lv2 := [(0, .ref l0), (1, .int l1)]) (st2 := [.int l1, .ref l0]) rfl <| zx_pf hy rfl e (rfl) fun h2 _ e => zl hy 2 (pc2 := 14) (lv2 := [(0, .ref l0), (1, .int l1)]) (st2 := [.ref l0, .ref l0]) rfl <| zx_gI hy rfl e fun x3 _ e => zx_pf hy rfl e (rfl) fun h4 _ e => zt_sub (z_fn) <| sfM_fail_20 N    h4 _ e)
theorem rfM_fail (N : Nat) (l0 : Nat) (l1 : Int32) (h : zH) (r : Int32 × zH) (e : fM_fail N l0 l1 h = some r) : fT h l0 5 = true := by
  unfold fM_fail at e
  exact (cond_some e).1
/-- LyndonBenchModel.is(I)Z -/
theorem mfM_is : z_me 200 zc_200 2 [] (some .boolean) := ⟨z_me0 rfl, rfl, rfl, rfl⟩
def fM_is_21 (N : Nat)  (s0 : Int32) (h : zH) : Option (Int32 × zH) := cond (decide (s0 = Int32.ofInt 0) || decide (s0 = Int32.ofInt 1)) (some (s0, h)) none
theorem sfM_is_21 {xs : List Int32} (N : Nat)   (s0 : Int32) (h : zH) (r : Int32 × zH) (e : fM_is_21 N  s0 h = some r) : zt xs (2) 200 21 [] [.int s0] h 0 0 (zQ cI r) := by
  have hy := mfM_is
  unfold fM_is_21 at e
  exact zx_retB hy rfl rfl e
def fM_is_16 (N : Nat)   (h : zH) : Option (Int32 × zH) := fM_is_21 N  (Int32.ofInt 1) h
theorem sfM_is_16 {xs : List Int32} (N : Nat)    (h : zH) (r : Int32 × zH) (e : fM_is_16 N   h = some r) : zt xs (2) 200 16 [] [] h 0 0 (zQ cI r) := by
  have hy := mfM_is
  unfold fM_is_16 at e
  exact zl hy 2 (pc2 := 21) (lv2 := []) (st2 := [.int (Int32.ofInt 1)]) rfl <| zt_sub (z_fn) <| sfM_is_21 N   (Int32.ofInt 1) h _ e
def fM_is (N : Nat) (l0 : Nat) (l1 : Int32) (h : zH) : Option (Int32 × zH) := cond (fT h l0 5) (b1 (fI h l0 5 18) fun x1 => cond (z_cmp .eq x1 l1) (fM_is_16 N   h) (b2 (fM_fail N l0 (Int32.ofInt 1) h) fun x2 h3 => cond (z_cmp .eq x2 (Int32.ofInt 0)) (fM_is_21 N  (Int32.ofInt 0) h3) (fM_is_16 N   h3))) none
theorem sfM_is {xs : List Int32} (N : Nat) (l0 : Nat) (l1 : Int32) (h : zH) (r : Int32 × zH) (e : fM_is N l0 l1 h = some r) : zt xs (2) 200 0 [(0, .ref l0), (1, .int l1)] [] h 0 0 (zQ cI r) := by
  have hy := mfM_is
  unfold fM_is at e
  replace e := (cond_some e).2
  exact zl hy 1 (pc2 := 1) (lv2 := [(0, .ref l0), (1, .int l1)]) (st2 := [.ref l0]) rfl <| zx_gI hy rfl e fun x1 _ e => zl hy 1 (pc2 := 5) (lv2 := [(0, .ref l0), (1, .int l1)]) (st2 := [.int l1, .int x1]) rfl <| zx_c hy rfl e (fun _ e => zt_sub (z_fn) <| sfM_is_16 N    h _ e) (fun _ e => zl hy 2 (pc2 := 10) (lv2 := [(0, .ref l0), (1, .int l1)]) (st2 := [.int (Int32.ofInt 1), .ref l0]) rfl <| zx_call hy (as := [.ref l0, .int (Int32.ofInt 1)]) (rest := []) (ov := (fun v => some (.int v))) (fun _ => rfl) rfl rfl (Or.inl rfl) rfl rfl (Nat.le_of_ble_eq_true rfl) (Nat.le_of_ble_eq_true rfl) (fun _ e _ => z_rcvT (rfM_fail N l0 (Int32.ofInt 1) h _ e)) (fun _ e => zt_deep (Nat.le_of_ble_eq_true rfl) (sfM_fail N l0 (Int32.ofInt 1) h _ e)) e fun x2 h3 _ e => zx_c0 hy rfl e (fun _ e => zl hy 1 (pc2 := 21) (lv2 := [(0, .ref l0), (1, .int l1)]) (st2 := [.int (Int32.ofInt 0)]) rfl <| zt_sub (z_fn) <| sfM_is_21 N   (Int32.ofInt 0) h3 _ e) (fun _ e => zt_sub (z_fn) <| sfM_is_16 N    h3 _ e))
theorem rfM_is (N : Nat) (l0 : Nat) (l1 : Int32) (h : zH) (r : Int32 × zH) (e : fM_is N l0 l1 h = some r) : fT h l0 5 = true := by
  unfold fM_is at e
  exact (cond_some e).1
/-- LyndonBenchModel.number(III)Z -/
theorem mfM_number : z_me 201 zc_201 4 [] (some .boolean) := ⟨z_me0 rfl, rfl, rfl, rfl⟩
abbrev zC_201_m : List zE := [(0, .aload_n 0, 1, 0, 0), (1, .iconst 3, 1, 0, 0), (2, .invokevirtual 174, 3, 200, 1), (5, .ifCond .ne 5, 3, 10, 0), (8, .iconst 0, 1, 0, 0), (9, .ireturn, 1, 0, 0), (10, .aload_n 0, 1, 0, 0), (11, .getfield 164, 3, 5, 21), (14, .iload_n 2, 1, 0, 0), (15, .iload_n 3, 1, 0, 0), (16, .invokestatic 58, 3, 148, 3), (19, .ifCond .ne 9, 3, 28, 0), (22, .aload_n 0, 1, 0, 0), (23, .iconst 2, 1, 0, 0), (24, .invokevirtual 170, 3, 199, 1), (27, .ireturn, 1, 0, 0), (28, .aload_n 0, 1, 0, 0), (29, .getfield 42, 3, 5, 23), (32, .iload_n 1, 1, 0, 0), (33, .aload_n 0, 1, 0, 0), (34, .getfield 164, 3, 5, 21), (37, .iastore, 1, 0, 0), (38, .aload_n 0, 1, 0, 0), (39, .invokevirtual 177, 3, 197, 0), (42, .iconst 1, 1, 0, 0), (43, .ireturn, 1, 0, 0)]
theorem mfM_number_m : z_me 201 zC_201_m 4 [] (some .boolean) := ⟨z_me1 (cd := zc_201) rfl (by decide +kernel), rfl, rfl, rfl⟩
def fM_number (N : Nat) (l0 : Nat) (l1 : Int32) (l2 : Int32) (l3 : Int32) (h : zH) : Option (Int32 × zH) := cond (fT h l0 5) (b2 (fM_is N l0 (Int32.ofInt 3) h) fun x1 h2 => cond (z_cmp .ne x1 (Int32.ofInt 0)) (b1 (fI h2 l0 5 21) fun x3 => b2 (fM_in N x3 l2 l3 h2) fun x4 h5 => cond (z_cmp .ne x4 (Int32.ofInt 0)) (b1 (fR h5 l0 5 23) fun x6 => b1 (fI h5 l0 5 21) fun x7 => b1 (fAS h5 x6 100 l1 (.int x7)) fun h8 => b2 (fM_next N l0 h8) fun _ h10 => some ((Int32.ofInt 1), h10)) (b2 (fM_fail N l0 (Int32.ofInt 2) h5) fun x11 h12 => cond (decide (x11 = Int32.ofInt 0) || decide (x11 = Int32.ofInt 1)) (some (x11, h12)) none)) (some ((Int32.ofInt 0), h2))) none
theorem sfM_number {xs : List Int32} (N : Nat) (l0 : Nat) (l1 : Int32) (l2 : Int32) (l3 : Int32) (h : zH) (r : Int32 × zH) (e : fM_number N l0 l1 l2 l3 h = some r) : zt xs (3) 201 0 [(0, .ref l0), (1, .int l1), (2, .int l2), (3, .int l3)] [] h 0 0 (zQ cI r) := by
  have hy := mfM_number_m
  unfold fM_number at e
  replace e := (cond_some e).2
  exact zl hy 2 (pc2 := 2) (lv2 := [(0, .ref l0), (1, .int l1), (2, .int l2), (3, .int l3)]) (st2 := [.int (Int32.ofInt 3), .ref l0]) rfl <| zx_call hy (as := [.ref l0, .int (Int32.ofInt 3)]) (rest := []) (ov := (fun v => some (.int v))) (fun _ => rfl) rfl rfl (Or.inl rfl) rfl rfl (Nat.le_of_ble_eq_true rfl) (Nat.le_of_ble_eq_true rfl) (fun _ e _ => z_rcvT (rfM_is N l0 (Int32.ofInt 3) h _ e)) (fun _ e => zt_deep (Nat.le_of_ble_eq_true rfl) (sfM_is N l0 (Int32.ofInt 3) h _ e)) e fun x1 h2 _ e => zx_c0 hy rfl e (fun _ e => zl hy 1 (pc2 := 11) (lv2 := [(0, .ref l0), (1, .int l1), (2, .int l2), (3, .int l3)]) (st2 := [.ref l0]) rfl <| zx_gI hy rfl e fun x3 _ e => zl hy 2 (pc2 := 16) (lv2 := [(0, .ref l0), (1, .int l1), (2, .int l2), (3, .int l3)]) (st2 := [.int l3, .int l2, .int x3]) rfl <| zx_call hy (as := [.int x3, .int l2, .int l3]) (rest := []) (ov := (fun v => some (.int v))) (fun _ => rfl) rfl rfl (Or.inr (Or.inl rfl)) rfl rfl (Nat.le_of_ble_eq_true rfl) (Nat.le_of_ble_eq_true rfl) (fun _ _ hz => absurd rfl hz) (fun _ e => zt_deep (Nat.le_of_ble_eq_true rfl) (sfM_in N x3 l2 l3 h2 _ e)) e fun x4 h5 _ e => zx_c0 hy rfl e (fun _ e => zl hy 1 (pc2 := 29) (lv2 := [(0, .ref l0), (1, .int l1), (2, .int l2), (3, .int l3)]) (st2 := [.ref l0]) rfl <| zx_gR hy rfl e fun x6 _ e => zl hy 2 (pc2 := 34) (lv2 := [(0, .ref l0), (1, .int l1), (2, .int l2), (3, .int l3)]) (st2 := [.ref l0, .int l1, .ref x6]) rfl <| zx_gI hy rfl e fun x7 _ e => zx_sI hy (j := .iastore) (Or.inl ⟨rfl, rfl, rfl⟩) rfl e fun h8 _ e => zl hy 1 (pc2 := 39) (lv2 := [(0, .ref l0), (1, .int l1), (2, .int l2), (3, .int l3)]) (st2 := [.ref l0]) rfl <| zx_call hy (as := [.ref l0]) (rest := []) (ov := (fun _ => none)) (fun _ => rfl) rfl rfl (Or.inl rfl) rfl rfl (Nat.le_of_ble_eq_true rfl) (Nat.le_of_ble_eq_true rfl) (fun _ e _ => z_rcvT (rfM_next N l0 h8 _ e)) (fun _ e => zt_deep (Nat.le_of_ble_eq_true rfl) (sfM_next N l0 h8 _ e)) e fun _ h10 _ e => zl hy 1 (pc2 := 43) (lv2 := [(0, .ref l0), (1, .int l1), (2, .int l2), (3, .int l3)]) (st2 := [.int (Int32.ofInt 1)]) rfl <| zx_ret hy (v := .int (Int32.ofInt 1)) rfl rfl (by decide) rfl e) (fun _ e => zl hy 2 (pc2 := 24) (lv2 := [(0, .ref l0), (1, .int l1), (2, .int l2), (3, .int l3)]) (st2 := [.int (Int32.ofInt 2), .ref l0]) rfl <| zx_call hy (as := [.ref l0, .int (Int32.ofInt 2)]) (rest := []) (ov := (fun v => some (.int v))) (fun _ => rfl) rfl rfl (Or.inl rfl) rfl rfl (Nat.le_of_ble_eq_true rfl) (Nat.le_of_ble_eq_true rfl) (fun _ e _ => z_rcvT (rfM_fail N l0 (Int32.ofInt 2) h5 _ e)) (fun _ e => zt_deep (Nat.le_of_ble_eq_true rfl) (sfM_fail N l0 (Int32.ofInt 2) h5 _ e)) e fun x11 h12 _ e => zx_retB hy rfl rfl e)) (fun _ e => zl hy 1 (pc2 := 9) (lv2 := [(0, .ref l0), (1, .int l1), (2, .int l2), (3, .int l3)]) (st2 := [.int (Int32.ofInt 0)]) rfl <| zx_ret hy (v := .int (Int32.ofInt 0)) rfl rfl (by decide) rfl e)
theorem rfM_number (N : Nat) (l0 : Nat) (l1 : Int32) (l2 : Int32) (l3 : Int32) (h : zH) (r : Int32 × zH) (e : fM_number N l0 l1 l2 l3 h = some r) : fT h l0 5 = true := by
  unfold fM_number at e
  exact (cond_some e).1
/-- LyndonBenchModel.stops(Z)Z -/
theorem mfM_stops : z_me 202 zc_202 2 [] (some .boolean) := ⟨z_me0 rfl, rfl, rfl, rfl⟩
def fM_stops_25 (N : Nat)  (s0 : Int32) (h : zH) : Option (Int32 × zH) := cond (decide (s0 = Int32.ofInt 0) || decide (s0 = Int32.ofInt 1)) (some (s0, h)) none
theorem sfM_stops_25 {xs : List Int32} (N : Nat)   (s0 : Int32) (h : zH) (r : Int32 × zH) (e : fM_stops_25 N  s0 h = some r) : zt xs (3) 202 25 [] [.int s0] h 0 0 (zQ cI r) := by
  have hy := mfM_stops
  unfold fM_stops_25 at e
  exact zx_retB hy rfl rfl e
def fM_stops_24 (N : Nat)   (h : zH) : Option (Int32 × zH) := fM_stops_25 N  (Int32.ofInt 0) h
theorem sfM_stops_24 {xs : List Int32} (N : Nat)    (h : zH) (r : Int32 × zH) (e : fM_stops_24 N   h = some r) : zt xs (3) 202 24 [] [] h 0 0 (zQ cI r) := by
  have hy := mfM_stops
  unfold fM_stops_24 at e
  exact zl hy 1 (pc2 := 25) (lv2 := []) (st2 := [.int (Int32.ofInt 0)]) rfl <| zt_sub (z_fn) <| sfM_stops_25 N   (Int32.ofInt 0) h _ e
def fM_stops_20 (N : Nat)   (h : zH) : Option (Int32 × zH) := fM_stops_25 N  (Int32.ofInt 1) h
theorem sfM_stops_20 {xs : List Int32} (N : Nat)    (h : zH) (r : Int32 × zH) (e : fM_stops_20 N   h = some r) : zt xs (3) 202 20 [] [] h 0 0 (zQ cI r) := by
  have hy := mfM_stops
  unfold fM_stops_20 at e
  exact zl hy 2 (pc2 := 25) (lv2 := []) (st2 := [.int (Int32.ofInt 1)]) rfl <| zt_sub (z_fn) <| sfM_stops_25 N   (Int32.ofInt 1) h _ e
def fM_stops (N : Nat) (l0 : Nat) (l1 : Int32) (h : zH) : Option (Int32 × zH) := cond (fT h l0 5) (b2 (fM_is N l0 (Int32.ofInt 1) h) fun x1 h2 => cond (z_cmp .eq x1 (Int32.ofInt 0)) (fM_stops_24 N   h2) (cond (z_cmp .ne l1 (Int32.ofInt 0)) (fM_stops_20 N   h2) (b2 (fM_fail N l0 (Int32.ofInt 3) h2) fun x3 h4 => cond (z_cmp .eq x3 (Int32.ofInt 0)) (fM_stops_24 N   h4) (fM_stops_20 N   h4)))) none
theorem sfM_stops {xs : List Int32} (N : Nat) (l0 : Nat) (l1 : Int32) (h : zH) (r : Int32 × zH) (e : fM_stops N l0 l1 h = some r) : zt xs (3) 202 0 [(0, .ref l0), (1, .int l1)] [] h 0 0 (zQ cI r) := by
  have hy := mfM_stops
  unfold fM_stops at e
  replace e := (cond_some e).2
  exact zl hy 2 (pc2 := 2) (lv2 := [(0, .ref l0), (1, .int l1)]) (st2 := [.int (Int32.ofInt 1), .ref l0]) rfl <| zx_call hy (as := [.ref l0, .int (Int32.ofInt 1)]) (rest := []) (ov := (fun v => some (.int v))) (fun _ => rfl) rfl rfl (Or.inl rfl) rfl rfl (Nat.le_of_ble_eq_true rfl) (Nat.le_of_ble_eq_true rfl) (fun _ e _ => z_rcvT (rfM_is N l0 (Int32.ofInt 1) h _ e)) (fun _ e => zt_deep (Nat.le_of_ble_eq_true rfl) (sfM_is N l0 (Int32.ofInt 1) h _ e)) e fun x1 h2 _ e => zx_c0 hy rfl e (fun _ e => zt_sub (z_fn) <| sfM_stops_24 N    h2 _ e) (fun _ e => zl hy 1 (pc2 := 9) (lv2 := [(0, .ref l0), (1, .int l1)]) (st2 := [.int l1]) rfl <| zx_c0 hy rfl e (fun _ e => zt_sub (z_fn) <| sfM_stops_20 N    h2 _ e) (fun _ e => zl hy 2 (pc2 := 14) (lv2 := [(0, .ref l0), (1, .int l1)]) (st2 := [.int (Int32.ofInt 3), .ref l0]) rfl <| zx_call hy (as := [.ref l0, .int (Int32.ofInt 3)]) (rest := []) (ov := (fun v => some (.int v))) (fun _ => rfl) rfl rfl (Or.inl rfl) rfl rfl (Nat.le_of_ble_eq_true rfl) (Nat.le_of_ble_eq_true rfl) (fun _ e _ => z_rcvT (rfM_fail N l0 (Int32.ofInt 3) h2 _ e)) (fun _ e => zt_deep (Nat.le_of_ble_eq_true rfl) (sfM_fail N l0 (Int32.ofInt 3) h2 _ e)) e fun x3 h4 _ e => zx_c0 hy rfl e (fun _ e => zt_sub (z_fn) <| sfM_stops_24 N    h4 _ e) (fun _ e => zt_sub (z_fn) <| sfM_stops_20 N    h4 _ e)))
theorem rfM_stops (N : Nat) (l0 : Nat) (l1 : Int32) (h : zH) (r : Int32 × zH) (e : fM_stops N l0 l1 h = some r) : fT h l0 5 = true := by
  unfold fM_stops at e
  exact (cond_some e).1
end
section
/-! F functions, by program. -/
/-- LyndonBenchModel.readsWordInto(I)Z -/
theorem mfM_readsWordInto : z_me 203 zc_203 4 [] (some .boolean) := ⟨z_me0 rfl, rfl, rfl, rfl⟩
abbrev zC_203_101 : List zE := [(101, .aload_n 0, 1, 0, 0), (102, .iload_n 1, 1, 0, 0), (103, .iload_n 2, 1, 0, 0), (104, .iadd, 1, 0, 0), (105, .putfield 66, 3, 5, 14), (108, .aload_n 0, 1, 0, 0), (109, .invokevirtual 177, 3, 197, 0), (112, .iconst 1, 1, 0, 0), (113, .ireturn, 1, 0, 0)]
theorem mfM_readsWordInto_101 : z_me 203 zC_203_101 4 [] (some .boolean) := ⟨z_me1 (cd := zc_203) rfl (by decide +kernel), rfl, rfl, rfl⟩
abbrev zC_203_60 : List zE := [(60, .iload_n 3, 1, 0, 0), (61, .iload_n 2, 1, 0, 0), (62, .if_icmp .ge 39, 3, 101, 0), (65, .iload_n 1, 1, 0, 0), (66, .iload_n 2, 1, 0, 0), (67, .iadd, 1, 0, 0), (68, .bipush 120, 2, 0, 0), (70, .if_icmp .gt 31, 3, 101, 0), (73, .aload_n 0, 1, 0, 0), (74, .getfield 28, 3, 5, 8), (77, .iload_n 1, 1, 0, 0), (78, .iload_n 3, 1, 0, 0), (79, .iadd, 1, 0, 0), (80, .aload_n 0, 1, 0, 0), (81, .getfield 25, 3, 5, 7), (84, .aload_n 0, 1, 0, 0), (85, .getfield 155, 3, 5, 19), (88, .iload_n 3, 1, 0, 0), (89, .iadd, 1, 0, 0), (90, .iaload, 1, 0, 0), (91, .bipush 97, 2, 0, 0), (93, .isub, 1, 0, 0), (94, .iastore, 1, 0, 0), (95, .iinc 3 1, 3, 0, 0), (98, .goto (-38), 3, 60, 0)]
theorem mfM_readsWordInto_60 : z_me 203 zC_203_60 4 [] (some .boolean) := ⟨z_me1 (cd := zc_203) rfl (by decide +kernel), rfl, rfl, rfl⟩
abbrev zC_203_15 : List zE := [(15, .iload_n 2, 1, 0, 0), (16, .aload_n 0, 1, 0, 0), (17, .getfield 152, 3, 5, 20), (20, .if_icmp .ge 28, 3, 48, 0), (23, .aload_n 0, 1, 0, 0), (24, .aload_n 0, 1, 0, 0), (25, .getfield 25, 3, 5, 7), (28, .iload_n 2, 1, 0, 0), (29, .iaload, 1, 0, 0), (30, .invokevirtual 180, 3, 151, 1), (33, .ifCond .ne 9, 3, 42, 0), (36, .aload_n 0, 1, 0, 0), (37, .iconst 2, 1, 0, 0), (38, .invokevirtual 170, 3, 199, 1), (41, .ireturn, 1, 0, 0), (42, .iinc 2 1, 3, 0, 0), (45, .goto (-30), 3, 15, 0), (48, .aload_n 0, 1, 0, 0), (49, .getfield 152, 3, 5, 20), (52, .aload_n 0, 1, 0, 0), (53, .getfield 155, 3, 5, 19), (56, .isub, 1, 0, 0), (57, .istore_n 2, 1, 0, 0), (58, .iconst 0, 1, 0, 0), (59, .istore_n 3, 1, 0, 0)]
theorem mfM_readsWordInto_15 : z_me 203 zC_203_15 4 [] (some .boolean) := ⟨z_me1 (cd := zc_203) rfl (by decide +kernel), rfl, rfl, rfl⟩
abbrev zC_203_m : List zE := [(0, .aload_n 0, 1, 0, 0), (1, .iconst 2, 1, 0, 0), (2, .invokevirtual 174, 3, 200, 1), (5, .ifCond .ne 5, 3, 10, 0), (8, .iconst 0, 1, 0, 0), (9, .ireturn, 1, 0, 0), (10, .aload_n 0, 1, 0, 0), (11, .getfield 155, 3, 5, 19), (14, .istore_n 2, 1, 0, 0)]
theorem mfM_readsWordInto_m : z_me 203 zC_203_m 4 [] (some .boolean) := ⟨z_me1 (cd := zc_203) rfl (by decide +kernel), rfl, rfl, rfl⟩
def fM_readsWordInto_101 (N : Nat)  (l0 : Nat) (l1 : Int32) (l2 : Int32) (h : zH) : Option (Int32 × zH) := b1 (fS h l0 5 14 (.int (l1 + l2))) fun h7 => b2 (fM_next N l0 h7) fun _ h9 => some ((Int32.ofInt 1), h9)
theorem sfM_readsWordInto_101 {xs : List Int32} (N : Nat)   (l0 : Nat) (l1 : Int32) (l2 : Int32) (h : zH) (r : Int32 × zH) (e : fM_readsWordInto_101 N  l0 l1 l2 h = some r) : zt xs (3) 203 101 [(0, .ref l0), (1, .int l1), (2, .int l2)] [] h 0 0 (zQ cI r) := by
  have hy := mfM_readsWordInto_101
  unfold fM_readsWordInto_101 at e
  exact zl hy 4 (pc2 := 105) (lv2 := [(0, .ref l0), (1, .int l1), (2, .int l2)]) (st2 := [.int (l1 + l2), .ref l0]) rfl <| zx_pf hy rfl e (rfl) fun h7 _ e => zl hy 1 (pc2 := 109) (lv2 := [(0, .ref l0), (1, .int l1), (2, .int l2)]) (st2 := [.ref l0]) rfl <| zx_call hy (as := [.ref l0]) (rest := []) (ov := (fun _ => none)) (fun _ => rfl) rfl rfl (Or.inl rfl) rfl rfl (Nat.le_of_ble_eq_true rfl) (Nat.le_of_ble_eq_true rfl) (fun _ e _ => z_rcvT (rfM_next N l0 h7 _ e)) (fun _ e => zt_deep (Nat.le_of_ble_eq_true rfl) (sfM_next N l0 h7 _ e)) e fun _ h9 _ e => zl hy 1 (pc2 := 113) (lv2 := [(0, .ref l0), (1, .int l1), (2, .int l2)]) (st2 := [.int (Int32.ofInt 1)]) rfl <| zx_ret hy (v := .int (Int32.ofInt 1)) rfl rfl (by decide) rfl e
def fM_readsWordInto_60 (N : Nat) : Nat → Nat → Int32 → Int32 → Int32 → zH → Option (Int32 × zH)
  | 0, _, _, _, _, _ => none
  | n + 1, l0, l1, l2, l3, h => cond (z_cmp .ge l3 l2) (fM_readsWordInto_101 N  l0 l1 l2 h) (cond (z_cmp .gt (l1 + l2) (Int32.ofInt 120)) (fM_readsWordInto_101 N  l0 l1 l2 h) (b1 (fR h l0 5 8) fun x7 => b1 (fR h l0 5 7) fun x8 => b1 (fI h l0 5 19) fun x9 => b1 (fAI h x8 100 (x9 + l3)) fun x10 => b1 (fAS h x7 100 (l1 + l3) (.int (x10 - (Int32.ofInt 97)))) fun h11 => fM_readsWordInto_60 N n  l0 l1 l2 (l3 + Int32.ofInt 1) h11))
theorem sfM_readsWordInto_60 {xs : List Int32} (N : Nat)   : ∀ (n : Nat) (l0 : Nat) (l1 : Int32) (l2 : Int32) (l3 : Int32) (h : zH) (r : Int32 × zH), fM_readsWordInto_60 N n  l0 l1 l2 l3 h = some r → zt xs (3) 203 60 [(0, .ref l0), (1, .int l1), (2, .int l2), (3, .int l3)] [] h 0 0 (zQ cI r) := by
  have hy := mfM_readsWordInto_60
  intro n
  induction n with
  | zero =>
    intro l0 l1 l2 l3 h r e
    rw [fM_readsWordInto_60] at e
    cases e
  | succ n ih =>
    intro l0 l1 l2 l3 h r e
    rw [fM_readsWordInto_60] at e
    exact zl hy 2 (pc2 := 62) (lv2 := [(0, .ref l0), (1, .int l1), (2, .int l2), (3, .int l3)]) (st2 := [.int l2, .int l3]) rfl <| zx_c hy rfl e (fun _ e => zt_sub (z_fc rfl (z_fc rfl (z_fc rfl (z_fn)))) <| sfM_readsWordInto_101 N   l0 l1 l2 h _ e) (fun _ e => zl hy 3 (pc2 := 68) (lv2 := [(0, .ref l0), (1, .int l1), (2, .int l2), (3, .int l3)]) (st2 := [.int (l1 + l2)]) rfl <| zx_bip hy (c := 120) rfl (by decide) <| zx_c hy rfl e (fun _ e => zt_sub (z_fc rfl (z_fc rfl (z_fc rfl (z_fn)))) <| sfM_readsWordInto_101 N   l0 l1 l2 h _ e) (fun _ e => zl hy 1 (pc2 := 74) (lv2 := [(0, .ref l0), (1, .int l1), (2, .int l2), (3, .int l3)]) (st2 := [.ref l0]) rfl <| zx_gR hy rfl e fun x7 _ e => zl hy 4 (pc2 := 81) (lv2 := [(0, .ref l0), (1, .int l1), (2, .int l2), (3, .int l3)]) (st2 := [.ref l0, .int (l1 + l3), .ref x7]) rfl <| zx_gR hy rfl e fun x8 _ e => zl hy 1 (pc2 := 85) (lv2 := [(0, .ref l0), (1, .int l1), (2, .int l2), (3, .int l3)]) (st2 := [.ref l0, .ref x8, .int (l1 + l3), .ref x7]) rfl <| zx_gI hy rfl e fun x9 _ e => zl hy 2 (pc2 := 90) (lv2 := [(0, .ref l0), (1, .int l1), (2, .int l2), (3, .int l3)]) (st2 := [.int (x9 + l3), .ref x8, .int (l1 + l3), .ref x7]) rfl <| zx_aI hy (j := .iaload) (Or.inl ⟨rfl, rfl⟩) rfl e fun x10 _ e => zx_bip hy (c := 97) rfl (by decide) <| zl hy 1 (pc2 := 94) (lv2 := [(0, .ref l0), (1, .int l1), (2, .int l2), (3, .int l3)]) (st2 := [.int (x10 - (Int32.ofInt 97)), .int (l1 + l3), .ref x7]) rfl <| zx_sI hy (j := .iastore) (Or.inl ⟨rfl, rfl, rfl⟩) rfl e fun h11 _ e => zl hy 2 (pc2 := 60) (lv2 := [(3, .int (l3 + Int32.ofInt 1)), (0, .ref l0), (1, .int l1), (2, .int l2)]) (st2 := []) rfl <| zt_sub (z_fc rfl (z_fc rfl (z_fc rfl (z_fc rfl (z_fn))))) <| ih l0 l1 l2 (l3 + Int32.ofInt 1) h11 _ e))
def fM_readsWordInto_15 (N : Nat) : Nat → Nat → Int32 → Int32 → zH → Option (Int32 × zH)
  | 0, _, _, _, _ => none
  | n + 1, l0, l1, l2, h => b1 (fI h l0 5 20) fun x4 => cond (z_cmp .ge l2 x4) (b1 (fI h l0 5 20) fun x5 => b1 (fI h l0 5 19) fun x6 => fM_readsWordInto_60 N N  l0 l1 (x5 - x6) (Int32.ofInt 0) h) (b1 (fR h l0 5 7) fun x7 => b1 (fAI h x7 100 l2) fun x8 => b2 (fM_isLetter N l0 x8 h) fun x9 h10 => cond (z_cmp .ne x9 (Int32.ofInt 0)) (fM_readsWordInto_15 N n  l0 l1 (l2 + Int32.ofInt 1) h10) (b2 (fM_fail N l0 (Int32.ofInt 2) h10) fun x11 h12 => cond (decide (x11 = Int32.ofInt 0) || decide (x11 = Int32.ofInt 1)) (some (x11, h12)) none))
theorem sfM_readsWordInto_15 {xs : List Int32} (N : Nat)   : ∀ (n : Nat) (l0 : Nat) (l1 : Int32) (l2 : Int32) (h : zH) (r : Int32 × zH), fM_readsWordInto_15 N n  l0 l1 l2 h = some r → zt xs (3) 203 15 [(0, .ref l0), (1, .int l1), (2, .int l2)] [] h 0 0 (zQ cI r) := by
  have hy := mfM_readsWordInto_15
  intro n
  induction n with
  | zero =>
    intro l0 l1 l2 h r e
    rw [fM_readsWordInto_15] at e
    cases e
  | succ n ih =>
    intro l0 l1 l2 h r e
    rw [fM_readsWordInto_15] at e
    exact zl hy 2 (pc2 := 17) (lv2 := [(0, .ref l0), (1, .int l1), (2, .int l2)]) (st2 := [.ref l0, .int l2]) rfl <| zx_gI hy rfl e fun x4 _ e => zx_c hy rfl e (fun _ e => zl hy 1 (pc2 := 49) (lv2 := [(0, .ref l0), (1, .int l1), (2, .int l2)]) (st2 := [.ref l0]) rfl <| zx_gI hy rfl e fun x5 _ e => zl hy 1 (pc2 := 53) (lv2 := [(0, .ref l0), (1, .int l1), (2, .int l2)]) (st2 := [.ref l0, .int x5]) rfl <| zx_gI hy rfl e fun x6 _ e => zl hy 4 (pc2 := 60) (lv2 := [(3, .int (Int32.ofInt 0)), (2, .int (x5 - x6)), (0, .ref l0), (1, .int l1)]) (st2 := []) rfl <| zt_sub (z_fc rfl (z_fc rfl (z_fc rfl (z_fc rfl (z_fn))))) <| sfM_readsWordInto_60 N   N l0 l1 (x5 - x6) (Int32.ofInt 0) h _ e) (fun _ e => zl hy 2 (pc2 := 25) (lv2 := [(0, .ref l0), (1, .int l1), (2, .int l2)]) (st2 := [.ref l0, .ref l0]) rfl <| zx_gR hy rfl e fun x7 _ e => zl hy 1 (pc2 := 29) (lv2 := [(0, .ref l0), (1, .int l1), (2, .int l2)]) (st2 := [.int l2, .ref x7, .ref l0]) rfl <| zx_aI hy (j := .iaload) (Or.inl ⟨rfl, rfl⟩) rfl e fun x8 _ e => zx_call hy (as := [.ref l0, .int x8]) (rest := []) (ov := (fun v => some (.int v))) (fun _ => rfl) rfl rfl (Or.inl rfl) rfl rfl (Nat.le_of_ble_eq_true rfl) (Nat.le_of_ble_eq_true rfl) (fun _ e _ => z_rcvT (rfM_isLetter N l0 x8 h _ e)) (fun _ e => zt_deep (Nat.le_of_ble_eq_true rfl) (sfM_isLetter N l0 x8 h _ e)) e fun x9 h10 _ e => zx_c0 hy rfl e (fun _ e => zl hy 2 (pc2 := 15) (lv2 := [(2, .int (l2 + Int32.ofInt 1)), (0, .ref l0), (1, .int l1)]) (st2 := []) rfl <| zt_sub (z_fc rfl (z_fc rfl (z_fc rfl (z_fn)))) <| ih l0 l1 (l2 + Int32.ofInt 1) h10 _ e) (fun _ e => zl hy 2 (pc2 := 38) (lv2 := [(0, .ref l0), (1, .int l1), (2, .int l2)]) (st2 := [.int (Int32.ofInt 2), .ref l0]) rfl <| zx_call hy (as := [.ref l0, .int (Int32.ofInt 2)]) (rest := []) (ov := (fun v => some (.int v))) (fun _ => rfl) rfl rfl (Or.inl rfl) rfl rfl (Nat.le_of_ble_eq_true rfl) (Nat.le_of_ble_eq_true rfl) (fun _ e _ => z_rcvT (rfM_fail N l0 (Int32.ofInt 2) h10 _ e)) (fun _ e => zt_deep (Nat.le_of_ble_eq_true rfl) (sfM_fail N l0 (Int32.ofInt 2) h10 _ e)) e fun x11 h12 _ e => zx_retB hy rfl rfl e))
def fM_readsWordInto (N : Nat) (l0 : Nat) (l1 : Int32) (h : zH) : Option (Int32 × zH) := cond (fT h l0 5) (b2 (fM_is N l0 (Int32.ofInt 2) h) fun x1 h2 => cond (z_cmp .ne x1 (Int32.ofInt 0)) (b1 (fI h2 l0 5 19) fun x3 => fM_readsWordInto_15 N N  l0 l1 x3 h2) (some ((Int32.ofInt 0), h2))) none
theorem sfM_readsWordInto {xs : List Int32} (N : Nat) (l0 : Nat) (l1 : Int32) (h : zH) (r : Int32 × zH) (e : fM_readsWordInto N l0 l1 h = some r) : zt xs (3) 203 0 [(0, .ref l0), (1, .int l1)] [] h 0 0 (zQ cI r) := by
  have hy := mfM_readsWordInto_m
  unfold fM_readsWordInto at e
  replace e := (cond_some e).2
  exact zl hy 2 (pc2 := 2) (lv2 := [(0, .ref l0), (1, .int l1)]) (st2 := [.int (Int32.ofInt 2), .ref l0]) rfl <| zx_call hy (as := [.ref l0, .int (Int32.ofInt 2)]) (rest := []) (ov := (fun v => some (.int v))) (fun _ => rfl) rfl rfl (Or.inl rfl) rfl rfl (Nat.le_of_ble_eq_true rfl) (Nat.le_of_ble_eq_true rfl) (fun _ e _ => z_rcvT (rfM_is N l0 (Int32.ofInt 2) h _ e)) (fun _ e => zt_deep (Nat.le_of_ble_eq_true rfl) (sfM_is N l0 (Int32.ofInt 2) h _ e)) e fun x1 h2 _ e => zx_c0 hy rfl e (fun _ e => zl hy 1 (pc2 := 11) (lv2 := [(0, .ref l0), (1, .int l1)]) (st2 := [.ref l0]) rfl <| zx_gI hy rfl e fun x3 _ e => zl hy 1 (pc2 := 15) (lv2 := [(2, .int x3), (0, .ref l0), (1, .int l1)]) (st2 := []) rfl <| zt_sub (z_fc rfl (z_fc rfl (z_fc rfl (z_fn)))) <| sfM_readsWordInto_15 N   N l0 l1 x3 h2 _ e) (fun _ e => zl hy 1 (pc2 := 9) (lv2 := [(0, .ref l0), (1, .int l1)]) (st2 := [.int (Int32.ofInt 0)]) rfl <| zx_ret hy (v := .int (Int32.ofInt 0)) rfl rfl (by decide) rfl e)
theorem rfM_readsWordInto (N : Nat) (l0 : Nat) (l1 : Int32) (h : zH) (r : Int32 × zH) (e : fM_readsWordInto N l0 l1 h = some r) : fT h l0 5 = true := by
  unfold fM_readsWordInto at e
  exact (cond_some e).1
/-- LyndonBenchModel.readsText()Z -/
theorem mfM_readsText : z_me 204 zc_204 1 [] (some .boolean) := ⟨z_me0 rfl, rfl, rfl, rfl⟩
abbrev zC_204_29 : List zE := [(29, .iconst 0, 1, 0, 0), (30, .ireturn, 1, 0, 0)]
theorem mfM_readsText_29 : z_me 204 zC_204_29 1 [] (some .boolean) := ⟨z_me1 (cd := zc_204) rfl (by decide +kernel), rfl, rfl, rfl⟩
abbrev zC_204_23 : List zE := [(23, .invokevirtual 186, 3, 202, 1), (26, .ifCond .ne 5, 3, 31, 0), (31, .aload_n 0, 1, 0, 0), (32, .invokevirtual 102, 3, 175, 0), (35, .pop, 1, 0, 0), (36, .iconst 1, 1, 0, 0), (37, .ireturn, 1, 0, 0)]
theorem mfM_readsText_23 : z_me 204 zC_204_23 1 [] (some .boolean) := ⟨z_me1 (cd := zc_204) rfl (by decide +kernel), rfl, rfl, rfl⟩
abbrev zC_204_m : List zE := [(0, .aload_n 0, 1, 0, 0), (1, .iconst 0, 1, 0, 0), (2, .invokevirtual 183, 3, 203, 1), (5, .ifCond .eq 24, 3, 29, 0), (8, .aload_n 0, 1, 0, 0), (9, .aload_n 0, 1, 0, 0), (10, .getfield 66, 3, 5, 14), (13, .bipush 120, 2, 0, 0), (15, .if_icmp .gt 7, 3, 22, 0), (18, .iconst 1, 1, 0, 0), (19, .goto 4, 3, 23, 0), (22, .iconst 0, 1, 0, 0)]
theorem mfM_readsText_m : z_me 204 zC_204_m 1 [] (some .boolean) := ⟨z_me1 (cd := zc_204) rfl (by decide +kernel), rfl, rfl, rfl⟩
def fM_readsText_29 (N : Nat)   (h : zH) : Option (Int32 × zH) := some ((Int32.ofInt 0), h)
theorem sfM_readsText_29 {xs : List Int32} (N : Nat)    (h : zH) (r : Int32 × zH) (e : fM_readsText_29 N   h = some r) : zt xs (4) 204 29 [] [] h 0 0 (zQ cI r) := by
  have hy := mfM_readsText_29
  unfold fM_readsText_29 at e
  exact zl hy 1 (pc2 := 30) (lv2 := []) (st2 := [.int (Int32.ofInt 0)]) rfl <| zx_ret hy (v := .int (Int32.ofInt 0)) rfl rfl (by decide) rfl e
def fM_readsText_23 (N : Nat)  (l0 : Nat) (s0 : Int32) (s1 : Nat) (h : zH) : Option (Int32 × zH) := b2 (fM_stops N s1 s0 h) fun x4 h5 => cond (z_cmp .ne x4 (Int32.ofInt 0)) (b2 (fM_takes N l0 h5) fun x6 h7 => some ((Int32.ofInt 1), h7)) (fM_readsText_29 N   h5)
theorem sfM_readsText_23 {xs : List Int32} (N : Nat)   (l0 : Nat) (s0 : Int32) (s1 : Nat) (h : zH) (r : Int32 × zH) (e : fM_readsText_23 N  l0 s0 s1 h = some r) : zt xs (4) 204 23 [(0, .ref l0)] [.int s0, .ref s1] h 0 0 (zQ cI r) := by
  have hy := mfM_readsText_23
  unfold fM_readsText_23 at e
  exact zx_call hy (as := [.ref s1, .int s0]) (rest := []) (ov := (fun v => some (.int v))) (fun _ => rfl) rfl rfl (Or.inl rfl) rfl rfl (Nat.le_of_ble_eq_true rfl) (Nat.le_of_ble_eq_true rfl) (fun _ e _ => z_rcvT (rfM_stops N s1 s0 h _ e)) (fun _ e => zt_deep (Nat.le_of_ble_eq_true rfl) (sfM_stops N s1 s0 h _ e)) e fun x4 h5 _ e => zx_c0 hy rfl e (fun _ e => zl hy 1 (pc2 := 32) (lv2 := [(0, .ref l0)]) (st2 := [.ref l0]) rfl <| zx_call hy (as := [.ref l0]) (rest := []) (ov := (fun v => some (.int v))) (fun _ => rfl) rfl rfl (Or.inl rfl) rfl rfl (Nat.le_of_ble_eq_true rfl) (Nat.le_of_ble_eq_true rfl) (fun _ e _ => z_rcvT (rfM_takes N l0 h5 _ e)) (fun _ e => zt_deep (Nat.le_of_ble_eq_true rfl) (sfM_takes N l0 h5 _ e)) e fun x6 h7 _ e => zl hy 2 (pc2 := 37) (lv2 := [(0, .ref l0)]) (st2 := [.int (Int32.ofInt 1)]) rfl <| zx_ret hy (v := .int (Int32.ofInt 1)) rfl rfl (by decide) rfl e) (fun _ e => zt_sub (z_fn) <| sfM_readsText_29 N    h5 _ e)
def fM_readsText (N : Nat) (l0 : Nat) (h : zH) : Option (Int32 × zH) := cond (fT h l0 5) (b2 (fM_readsWordInto N l0 (Int32.ofInt 0) h) fun x1 h2 => cond (z_cmp .eq x1 (Int32.ofInt 0)) (fM_readsText_29 N   h2) (b1 (fI h2 l0 5 14) fun x3 => cond (z_cmp .gt x3 (Int32.ofInt 120)) (fM_readsText_23 N  l0 (Int32.ofInt 0) l0 h2) (fM_readsText_23 N  l0 (Int32.ofInt 1) l0 h2))) none
theorem sfM_readsText {xs : List Int32} (N : Nat) (l0 : Nat) (h : zH) (r : Int32 × zH) (e : fM_readsText N l0 h = some r) : zt xs (4) 204 0 [(0, .ref l0)] [] h 0 0 (zQ cI r) := by
  have hy := mfM_readsText_m
  unfold fM_readsText at e
  replace e := (cond_some e).2
  exact zl hy 2 (pc2 := 2) (lv2 := [(0, .ref l0)]) (st2 := [.int (Int32.ofInt 0), .ref l0]) rfl <| zx_call hy (as := [.ref l0, .int (Int32.ofInt 0)]) (rest := []) (ov := (fun v => some (.int v))) (fun _ => rfl) rfl rfl (Or.inl rfl) rfl rfl (Nat.le_of_ble_eq_true rfl) (Nat.le_of_ble_eq_true rfl) (fun _ e _ => z_rcvT (rfM_readsWordInto N l0 (Int32.ofInt 0) h _ e)) (fun _ e => zt_deep (Nat.le_of_ble_eq_true rfl) (sfM_readsWordInto N l0 (Int32.ofInt 0) h _ e)) e fun x1 h2 _ e => zx_c0 hy rfl e (fun _ e => zt_sub (z_fn) <| sfM_readsText_29 N    h2 _ e) (fun _ e => zl hy 2 (pc2 := 10) (lv2 := [(0, .ref l0)]) (st2 := [.ref l0, .ref l0]) rfl <| zx_gI hy rfl e fun x3 _ e => zx_bip hy (c := 120) rfl (by decide) <| zx_c hy rfl e (fun _ e => zl hy 1 (pc2 := 23) (lv2 := [(0, .ref l0)]) (st2 := [.int (Int32.ofInt 0), .ref l0]) rfl <| zt_sub (z_fc rfl (z_fn)) <| sfM_readsText_23 N   l0 (Int32.ofInt 0) l0 h2 _ e) (fun _ e => zl hy 2 (pc2 := 23) (lv2 := [(0, .ref l0)]) (st2 := [.int (Int32.ofInt 1), .ref l0]) rfl <| zt_sub (z_fc rfl (z_fn)) <| sfM_readsText_23 N   l0 (Int32.ofInt 1) l0 h2 _ e))
theorem rfM_readsText (N : Nat) (l0 : Nat) (h : zH) (r : Int32 × zH) (e : fM_readsText N l0 h = some r) : fT h l0 5 = true := by
  unfold fM_readsText at e
  exact (cond_some e).1
/-- LyndonBenchModel.readsAppend()Z -/
theorem mfM_readsAppend : z_me 205 zc_205 1 [] (some .boolean) := ⟨z_me0 rfl, rfl, rfl, rfl⟩
abbrev zC_205_38 : List zE := [(38, .iconst 0, 1, 0, 0), (39, .ireturn, 1, 0, 0)]
theorem mfM_readsAppend_38 : z_me 205 zC_205_38 1 [] (some .boolean) := ⟨z_me1 (cd := zc_205) rfl (by decide +kernel), rfl, rfl, rfl⟩
abbrev zC_205_32 : List zE := [(32, .invokevirtual 186, 3, 202, 1), (35, .ifCond .ne 5, 3, 40, 0), (40, .aload_n 0, 1, 0, 0), (41, .invokevirtual 102, 3, 175, 0), (44, .pop, 1, 0, 0), (45, .iconst 1, 1, 0, 0), (46, .ireturn, 1, 0, 0)]
theorem mfM_readsAppend_32 : z_me 205 zC_205_32 1 [] (some .boolean) := ⟨z_me1 (cd := zc_205) rfl (by decide +kernel), rfl, rfl, rfl⟩
abbrev zC_205_m : List zE := [(0, .aload_n 0, 1, 0, 0), (1, .invokevirtual 73, 3, 155, 0), (4, .aload_n 0, 1, 0, 0), (5, .aload_n 0, 1, 0, 0), (6, .getfield 7, 3, 5, 0), (9, .iconst 1, 1, 0, 0), (10, .iaload, 1, 0, 0), (11, .invokevirtual 183, 3, 203, 1), (14, .ifCond .eq 24, 3, 38, 0), (17, .aload_n 0, 1, 0, 0), (18, .aload_n 0, 1, 0, 0), (19, .getfield 66, 3, 5, 14), (22, .bipush 120, 2, 0, 0), (24, .if_icmp .gt 7, 3, 31, 0), (27, .iconst 1, 1, 0, 0), (28, .goto 4, 3, 32, 0), (31, .iconst 0, 1, 0, 0)]
theorem mfM_readsAppend_m : z_me 205 zC_205_m 1 [] (some .boolean) := ⟨z_me1 (cd := zc_205) rfl (by decide +kernel), rfl, rfl, rfl⟩
def fM_readsAppend_38 (N : Nat)   (h : zH) : Option (Int32 × zH) := some ((Int32.ofInt 0), h)
theorem sfM_readsAppend_38 {xs : List Int32} (N : Nat)    (h : zH) (r : Int32 × zH) (e : fM_readsAppend_38 N   h = some r) : zt xs (4) 205 38 [] [] h 0 0 (zQ cI r) := by
  have hy := mfM_readsAppend_38
  unfold fM_readsAppend_38 at e
  exact zl hy 1 (pc2 := 39) (lv2 := []) (st2 := [.int (Int32.ofInt 0)]) rfl <| zx_ret hy (v := .int (Int32.ofInt 0)) rfl rfl (by decide) rfl e
def fM_readsAppend_32 (N : Nat)  (l0 : Nat) (s0 : Int32) (s1 : Nat) (h : zH) : Option (Int32 × zH) := b2 (fM_stops N s1 s0 h) fun x8 h9 => cond (z_cmp .ne x8 (Int32.ofInt 0)) (b2 (fM_takes N l0 h9) fun x10 h11 => some ((Int32.ofInt 1), h11)) (fM_readsAppend_38 N   h9)
theorem sfM_readsAppend_32 {xs : List Int32} (N : Nat)   (l0 : Nat) (s0 : Int32) (s1 : Nat) (h : zH) (r : Int32 × zH) (e : fM_readsAppend_32 N  l0 s0 s1 h = some r) : zt xs (4) 205 32 [(0, .ref l0)] [.int s0, .ref s1] h 0 0 (zQ cI r) := by
  have hy := mfM_readsAppend_32
  unfold fM_readsAppend_32 at e
  exact zx_call hy (as := [.ref s1, .int s0]) (rest := []) (ov := (fun v => some (.int v))) (fun _ => rfl) rfl rfl (Or.inl rfl) rfl rfl (Nat.le_of_ble_eq_true rfl) (Nat.le_of_ble_eq_true rfl) (fun _ e _ => z_rcvT (rfM_stops N s1 s0 h _ e)) (fun _ e => zt_deep (Nat.le_of_ble_eq_true rfl) (sfM_stops N s1 s0 h _ e)) e fun x8 h9 _ e => zx_c0 hy rfl e (fun _ e => zl hy 1 (pc2 := 41) (lv2 := [(0, .ref l0)]) (st2 := [.ref l0]) rfl <| zx_call hy (as := [.ref l0]) (rest := []) (ov := (fun v => some (.int v))) (fun _ => rfl) rfl rfl (Or.inl rfl) rfl rfl (Nat.le_of_ble_eq_true rfl) (Nat.le_of_ble_eq_true rfl) (fun _ e _ => z_rcvT (rfM_takes N l0 h9 _ e)) (fun _ e => zt_deep (Nat.le_of_ble_eq_true rfl) (sfM_takes N l0 h9 _ e)) e fun x10 h11 _ e => zl hy 2 (pc2 := 46) (lv2 := [(0, .ref l0)]) (st2 := [.int (Int32.ofInt 1)]) rfl <| zx_ret hy (v := .int (Int32.ofInt 1)) rfl rfl (by decide) rfl e) (fun _ e => zt_sub (z_fn) <| sfM_readsAppend_38 N    h9 _ e)
def fM_readsAppend (N : Nat) (l0 : Nat) (h : zH) : Option (Int32 × zH) := cond (fT h l0 5) (b2 (fM_loads N l0 h) fun _ h2 => b1 (fR h2 l0 5 0) fun x3 => b1 (fAI h2 x3 100 (Int32.ofInt 1)) fun x4 => b2 (fM_readsWordInto N l0 x4 h2) fun x5 h6 => cond (z_cmp .eq x5 (Int32.ofInt 0)) (fM_readsAppend_38 N   h6) (b1 (fI h6 l0 5 14) fun x7 => cond (z_cmp .gt x7 (Int32.ofInt 120)) (fM_readsAppend_32 N  l0 (Int32.ofInt 0) l0 h6) (fM_readsAppend_32 N  l0 (Int32.ofInt 1) l0 h6))) none
theorem sfM_readsAppend {xs : List Int32} (N : Nat) (l0 : Nat) (h : zH) (r : Int32 × zH) (e : fM_readsAppend N l0 h = some r) : zt xs (4) 205 0 [(0, .ref l0)] [] h 0 0 (zQ cI r) := by
  have hy := mfM_readsAppend_m
  unfold fM_readsAppend at e
  replace e := (cond_some e).2
  exact zl hy 1 (pc2 := 1) (lv2 := [(0, .ref l0)]) (st2 := [.ref l0]) rfl <| zx_call hy (as := [.ref l0]) (rest := []) (ov := (fun _ => none)) (fun _ => rfl) rfl rfl (Or.inl rfl) rfl rfl (Nat.le_of_ble_eq_true rfl) (Nat.le_of_ble_eq_true rfl) (fun _ e _ => z_rcvT (rfM_loads N l0 h _ e)) (fun _ e => zt_deep (Nat.le_of_ble_eq_true rfl) (sfM_loads N l0 h _ e)) e fun _ h2 _ e => zl hy 2 (pc2 := 6) (lv2 := [(0, .ref l0)]) (st2 := [.ref l0, .ref l0]) rfl <| zx_gR hy rfl e fun x3 _ e => zl hy 1 (pc2 := 10) (lv2 := [(0, .ref l0)]) (st2 := [.int (Int32.ofInt 1), .ref x3, .ref l0]) rfl <| zx_aI hy (j := .iaload) (Or.inl ⟨rfl, rfl⟩) rfl e fun x4 _ e => zx_call hy (as := [.ref l0, .int x4]) (rest := []) (ov := (fun v => some (.int v))) (fun _ => rfl) rfl rfl (Or.inl rfl) rfl rfl (Nat.le_of_ble_eq_true rfl) (Nat.le_of_ble_eq_true rfl) (fun _ e _ => z_rcvT (rfM_readsWordInto N l0 x4 h2 _ e)) (fun _ e => zt_deep (Nat.le_of_ble_eq_true rfl) (sfM_readsWordInto N l0 x4 h2 _ e)) e fun x5 h6 _ e => zx_c0 hy rfl e (fun _ e => zt_sub (z_fn) <| sfM_readsAppend_38 N    h6 _ e) (fun _ e => zl hy 2 (pc2 := 19) (lv2 := [(0, .ref l0)]) (st2 := [.ref l0, .ref l0]) rfl <| zx_gI hy rfl e fun x7 _ e => zx_bip hy (c := 120) rfl (by decide) <| zx_c hy rfl e (fun _ e => zl hy 1 (pc2 := 32) (lv2 := [(0, .ref l0)]) (st2 := [.int (Int32.ofInt 0), .ref l0]) rfl <| zt_sub (z_fc rfl (z_fn)) <| sfM_readsAppend_32 N   l0 (Int32.ofInt 0) l0 h6 _ e) (fun _ e => zl hy 2 (pc2 := 32) (lv2 := [(0, .ref l0)]) (st2 := [.int (Int32.ofInt 1), .ref l0]) rfl <| zt_sub (z_fc rfl (z_fn)) <| sfM_readsAppend_32 N   l0 (Int32.ofInt 1) l0 h6 _ e))
theorem rfM_readsAppend (N : Nat) (l0 : Nat) (h : zH) (r : Int32 × zH) (e : fM_readsAppend N l0 h = some r) : fT h l0 5 = true := by
  unfold fM_readsAppend at e
  exact (cond_some e).1
/-- LyndonBenchModel.readsDrop()Z -/
theorem mfM_readsDrop : z_me 206 zc_206 1 [] (some .boolean) := ⟨z_me0 rfl, rfl, rfl, rfl⟩
abbrev zC_206_23 : List zE := [(23, .iconst 0, 1, 0, 0), (24, .ireturn, 1, 0, 0)]
theorem mfM_readsDrop_23 : z_me 206 zC_206_23 1 [] (some .boolean) := ⟨z_me1 (cd := zc_206) rfl (by decide +kernel), rfl, rfl, rfl⟩
abbrev zC_206_m : List zE := [(0, .aload_n 0, 1, 0, 0), (1, .iconst 0, 1, 0, 0), (2, .iconst 0, 1, 0, 0), (3, .aload_n 0, 1, 0, 0), (4, .getfield 7, 3, 5, 0), (7, .iconst 1, 1, 0, 0), (8, .iaload, 1, 0, 0), (9, .invokevirtual 190, 3, 201, 3), (12, .ifCond .eq 11, 3, 23, 0), (15, .aload_n 0, 1, 0, 0), (16, .iconst 1, 1, 0, 0), (17, .invokevirtual 186, 3, 202, 1), (20, .ifCond .ne 5, 3, 25, 0), (25, .aload_n 0, 1, 0, 0), (26, .aload_n 0, 1, 0, 0), (27, .getfield 42, 3, 5, 23), (30, .iconst 0, 1, 0, 0), (31, .iaload, 1, 0, 0), (32, .invokevirtual 193, 3, 177, 1), (35, .pop, 1, 0, 0), (36, .iconst 1, 1, 0, 0), (37, .ireturn, 1, 0, 0)]
theorem mfM_readsDrop_m : z_me 206 zC_206_m 1 [] (some .boolean) := ⟨z_me1 (cd := zc_206) rfl (by decide +kernel), rfl, rfl, rfl⟩
def fM_readsDrop_23 (N : Nat)   (h : zH) : Option (Int32 × zH) := some ((Int32.ofInt 0), h)
theorem sfM_readsDrop_23 {xs : List Int32} (N : Nat)    (h : zH) (r : Int32 × zH) (e : fM_readsDrop_23 N   h = some r) : zt xs (5) 206 23 [] [] h 0 0 (zQ cI r) := by
  have hy := mfM_readsDrop_23
  unfold fM_readsDrop_23 at e
  exact zl hy 1 (pc2 := 24) (lv2 := []) (st2 := [.int (Int32.ofInt 0)]) rfl <| zx_ret hy (v := .int (Int32.ofInt 0)) rfl rfl (by decide) rfl e
def fM_readsDrop (N : Nat) (l0 : Nat) (h : zH) : Option (Int32 × zH) := cond (fT h l0 5) (b1 (fR h l0 5 0) fun x1 => b1 (fAI h x1 100 (Int32.ofInt 1)) fun x2 => b2 (fM_number N l0 (Int32.ofInt 0) (Int32.ofInt 0) x2 h) fun x3 h4 => cond (z_cmp .eq x3 (Int32.ofInt 0)) (fM_readsDrop_23 N   h4) (b2 (fM_stops N l0 (Int32.ofInt 1) h4) fun x5 h6 => cond (z_cmp .ne x5 (Int32.ofInt 0)) (b1 (fR h6 l0 5 23) fun x7 => b1 (fAI h6 x7 100 (Int32.ofInt 0)) fun x8 => b2 (fM_drops N l0 x8 h6) fun x9 h10 => some ((Int32.ofInt 1), h10)) (fM_readsDrop_23 N   h6))) none
theorem sfM_readsDrop {xs : List Int32} (N : Nat) (l0 : Nat) (h : zH) (r : Int32 × zH) (e : fM_readsDrop N l0 h = some r) : zt xs (5) 206 0 [(0, .ref l0)] [] h 0 0 (zQ cI r) := by
  have hy := mfM_readsDrop_m
  unfold fM_readsDrop at e
  replace e := (cond_some e).2
  exact zl hy 4 (pc2 := 4) (lv2 := [(0, .ref l0)]) (st2 := [.ref l0, .int (Int32.ofInt 0), .int (Int32.ofInt 0), .ref l0]) rfl <| zx_gR hy rfl e fun x1 _ e => zl hy 1 (pc2 := 8) (lv2 := [(0, .ref l0)]) (st2 := [.int (Int32.ofInt 1), .ref x1, .int (Int32.ofInt 0), .int (Int32.ofInt 0), .ref l0]) rfl <| zx_aI hy (j := .iaload) (Or.inl ⟨rfl, rfl⟩) rfl e fun x2 _ e => zx_call hy (as := [.ref l0, .int (Int32.ofInt 0), .int (Int32.ofInt 0), .int x2]) (rest := []) (ov := (fun v => some (.int v))) (fun _ => rfl) rfl rfl (Or.inl rfl) rfl rfl (Nat.le_of_ble_eq_true rfl) (Nat.le_of_ble_eq_true rfl) (fun _ e _ => z_rcvT (rfM_number N l0 (Int32.ofInt 0) (Int32.ofInt 0) x2 h _ e)) (fun _ e => zt_deep (Nat.le_of_ble_eq_true rfl) (sfM_number N l0 (Int32.ofInt 0) (Int32.ofInt 0) x2 h _ e)) e fun x3 h4 _ e => zx_c0 hy rfl e (fun _ e => zt_sub (z_fn) <| sfM_readsDrop_23 N    h4 _ e) (fun _ e => zl hy 2 (pc2 := 17) (lv2 := [(0, .ref l0)]) (st2 := [.int (Int32.ofInt 1), .ref l0]) rfl <| zx_call hy (as := [.ref l0, .int (Int32.ofInt 1)]) (rest := []) (ov := (fun v => some (.int v))) (fun _ => rfl) rfl rfl (Or.inl rfl) rfl rfl (Nat.le_of_ble_eq_true rfl) (Nat.le_of_ble_eq_true rfl) (fun _ e _ => z_rcvT (rfM_stops N l0 (Int32.ofInt 1) h4 _ e)) (fun _ e => zt_deep (Nat.le_of_ble_eq_true rfl) (sfM_stops N l0 (Int32.ofInt 1) h4 _ e)) e fun x5 h6 _ e => zx_c0 hy rfl e (fun _ e => zl hy 2 (pc2 := 27) (lv2 := [(0, .ref l0)]) (st2 := [.ref l0, .ref l0]) rfl <| zx_gR hy rfl e fun x7 _ e => zl hy 1 (pc2 := 31) (lv2 := [(0, .ref l0)]) (st2 := [.int (Int32.ofInt 0), .ref x7, .ref l0]) rfl <| zx_aI hy (j := .iaload) (Or.inl ⟨rfl, rfl⟩) rfl e fun x8 _ e => zx_call hy (as := [.ref l0, .int x8]) (rest := []) (ov := (fun v => some (.int v))) (fun _ => rfl) rfl rfl (Or.inl rfl) rfl rfl (Nat.le_of_ble_eq_true rfl) (Nat.le_of_ble_eq_true rfl) (fun _ e _ => z_rcvT (rfM_drops N l0 x8 h6 _ e)) (fun _ e => zt_deep (Nat.le_of_ble_eq_true rfl) (sfM_drops N l0 x8 h6 _ e)) e fun x9 h10 _ e => zl hy 2 (pc2 := 37) (lv2 := [(0, .ref l0)]) (st2 := [.int (Int32.ofInt 1)]) rfl <| zx_ret hy (v := .int (Int32.ofInt 1)) rfl rfl (by decide) rfl e) (fun _ e => zt_sub (z_fn) <| sfM_readsDrop_23 N    h6 _ e))
theorem rfM_readsDrop (N : Nat) (l0 : Nat) (h : zH) (r : Int32 × zH) (e : fM_readsDrop N l0 h = some r) : fT h l0 5 = true := by
  unfold fM_readsDrop at e
  exact (cond_some e).1
/-- LyndonBenchModel.readsPart()Z -/
theorem mfM_readsPart : z_me 207 zc_207 1 [] (some .boolean) := ⟨z_me0 rfl, rfl, rfl, rfl⟩
abbrev zC_207_43 : List zE := [(43, .iconst 0, 1, 0, 0), (44, .ireturn, 1, 0, 0)]
theorem mfM_readsPart_43 : z_me 207 zC_207_43 1 [] (some .boolean) := ⟨z_me1 (cd := zc_207) rfl (by decide +kernel), rfl, rfl, rfl⟩
abbrev zC_207_m : List zE := [(0, .aload_n 0, 1, 0, 0), (1, .iconst 0, 1, 0, 0), (2, .iconst 0, 1, 0, 0), (3, .aload_n 0, 1, 0, 0), (4, .getfield 7, 3, 5, 0), (7, .iconst 1, 1, 0, 0), (8, .iaload, 1, 0, 0), (9, .invokevirtual 190, 3, 201, 3), (12, .ifCond .eq 31, 3, 43, 0), (15, .aload_n 0, 1, 0, 0), (16, .iconst 1, 1, 0, 0), (17, .aload_n 0, 1, 0, 0), (18, .getfield 42, 3, 5, 23), (21, .iconst 0, 1, 0, 0), (22, .iaload, 1, 0, 0), (23, .aload_n 0, 1, 0, 0), (24, .getfield 7, 3, 5, 0), (27, .iconst 1, 1, 0, 0), (28, .iaload, 1, 0, 0), (29, .invokevirtual 190, 3, 201, 3), (32, .ifCond .eq 11, 3, 43, 0), (35, .aload_n 0, 1, 0, 0), (36, .iconst 1, 1, 0, 0), (37, .invokevirtual 186, 3, 202, 1), (40, .ifCond .ne 5, 3, 45, 0), (45, .aload_n 0, 1, 0, 0), (46, .aload_n 0, 1, 0, 0), (47, .getfield 42, 3, 5, 23), (50, .iconst 0, 1, 0, 0), (51, .iaload, 1, 0, 0), (52, .aload_n 0, 1, 0, 0), (53, .getfield 42, 3, 5, 23), (56, .iconst 1, 1, 0, 0), (57, .iaload, 1, 0, 0), (58, .invokevirtual 196, 3, 178, 2), (61, .pop, 1, 0, 0), (62, .iconst 1, 1, 0, 0), (63, .ireturn, 1, 0, 0)]
theorem mfM_readsPart_m : z_me 207 zC_207_m 1 [] (some .boolean) := ⟨z_me1 (cd := zc_207) rfl (by decide +kernel), rfl, rfl, rfl⟩
def fM_readsPart_43 (N : Nat)   (h : zH) : Option (Int32 × zH) := some ((Int32.ofInt 0), h)
theorem sfM_readsPart_43 {xs : List Int32} (N : Nat)    (h : zH) (r : Int32 × zH) (e : fM_readsPart_43 N   h = some r) : zt xs (4) 207 43 [] [] h 0 0 (zQ cI r) := by
  have hy := mfM_readsPart_43
  unfold fM_readsPart_43 at e
  exact zl hy 1 (pc2 := 44) (lv2 := []) (st2 := [.int (Int32.ofInt 0)]) rfl <| zx_ret hy (v := .int (Int32.ofInt 0)) rfl rfl (by decide) rfl e
def fM_readsPart (N : Nat) (l0 : Nat) (h : zH) : Option (Int32 × zH) := cond (fT h l0 5) (b1 (fR h l0 5 0) fun x1 => b1 (fAI h x1 100 (Int32.ofInt 1)) fun x2 => b2 (fM_number N l0 (Int32.ofInt 0) (Int32.ofInt 0) x2 h) fun x3 h4 => cond (z_cmp .eq x3 (Int32.ofInt 0)) (fM_readsPart_43 N   h4) (b1 (fR h4 l0 5 23) fun x5 => b1 (fAI h4 x5 100 (Int32.ofInt 0)) fun x6 => b1 (fR h4 l0 5 0) fun x7 => b1 (fAI h4 x7 100 (Int32.ofInt 1)) fun x8 => b2 (fM_number N l0 (Int32.ofInt 1) x6 x8 h4) fun x9 h10 => cond (z_cmp .eq x9 (Int32.ofInt 0)) (fM_readsPart_43 N   h10) (b2 (fM_stops N l0 (Int32.ofInt 1) h10) fun x11 h12 => cond (z_cmp .ne x11 (Int32.ofInt 0)) (b1 (fR h12 l0 5 23) fun x13 => b1 (fAI h12 x13 100 (Int32.ofInt 0)) fun x14 => b1 (fR h12 l0 5 23) fun x15 => b1 (fAI h12 x15 100 (Int32.ofInt 1)) fun x16 => b2 (fM_parts N l0 x14 x16 h12) fun x17 h18 => some ((Int32.ofInt 1), h18)) (fM_readsPart_43 N   h12)))) none
theorem sfM_readsPart {xs : List Int32} (N : Nat) (l0 : Nat) (h : zH) (r : Int32 × zH) (e : fM_readsPart N l0 h = some r) : zt xs (4) 207 0 [(0, .ref l0)] [] h 0 0 (zQ cI r) := by
  have hy := mfM_readsPart_m
  unfold fM_readsPart at e
  replace e := (cond_some e).2
  exact zl hy 4 (pc2 := 4) (lv2 := [(0, .ref l0)]) (st2 := [.ref l0, .int (Int32.ofInt 0), .int (Int32.ofInt 0), .ref l0]) rfl <| zx_gR hy rfl e fun x1 _ e => zl hy 1 (pc2 := 8) (lv2 := [(0, .ref l0)]) (st2 := [.int (Int32.ofInt 1), .ref x1, .int (Int32.ofInt 0), .int (Int32.ofInt 0), .ref l0]) rfl <| zx_aI hy (j := .iaload) (Or.inl ⟨rfl, rfl⟩) rfl e fun x2 _ e => zx_call hy (as := [.ref l0, .int (Int32.ofInt 0), .int (Int32.ofInt 0), .int x2]) (rest := []) (ov := (fun v => some (.int v))) (fun _ => rfl) rfl rfl (Or.inl rfl) rfl rfl (Nat.le_of_ble_eq_true rfl) (Nat.le_of_ble_eq_true rfl) (fun _ e _ => z_rcvT (rfM_number N l0 (Int32.ofInt 0) (Int32.ofInt 0) x2 h _ e)) (fun _ e => zt_deep (Nat.le_of_ble_eq_true rfl) (sfM_number N l0 (Int32.ofInt 0) (Int32.ofInt 0) x2 h _ e)) e fun x3 h4 _ e => zx_c0 hy rfl e (fun _ e => zt_sub (z_fn) <| sfM_readsPart_43 N    h4 _ e) (fun _ e => zl hy 3 (pc2 := 18) (lv2 := [(0, .ref l0)]) (st2 := [.ref l0, .int (Int32.ofInt 1), .ref l0]) rfl <| zx_gR hy rfl e fun x5 _ e => zl hy 1 (pc2 := 22) (lv2 := [(0, .ref l0)]) (st2 := [.int (Int32.ofInt 0), .ref x5, .int (Int32.ofInt 1), .ref l0]) rfl <| zx_aI hy (j := .iaload) (Or.inl ⟨rfl, rfl⟩) rfl e fun x6 _ e => zl hy 1 (pc2 := 24) (lv2 := [(0, .ref l0)]) (st2 := [.ref l0, .int x6, .int (Int32.ofInt 1), .ref l0]) rfl <| zx_gR hy rfl e fun x7 _ e => zl hy 1 (pc2 := 28) (lv2 := [(0, .ref l0)]) (st2 := [.int (Int32.ofInt 1), .ref x7, .int x6, .int (Int32.ofInt 1), .ref l0]) rfl <| zx_aI hy (j := .iaload) (Or.inl ⟨rfl, rfl⟩) rfl e fun x8 _ e => zx_call hy (as := [.ref l0, .int (Int32.ofInt 1), .int x6, .int x8]) (rest := []) (ov := (fun v => some (.int v))) (fun _ => rfl) rfl rfl (Or.inl rfl) rfl rfl (Nat.le_of_ble_eq_true rfl) (Nat.le_of_ble_eq_true rfl) (fun _ e _ => z_rcvT (rfM_number N l0 (Int32.ofInt 1) x6 x8 h4 _ e)) (fun _ e => zt_deep (Nat.le_of_ble_eq_true rfl) (sfM_number N l0 (Int32.ofInt 1) x6 x8 h4 _ e)) e fun x9 h10 _ e => zx_c0 hy rfl e (fun _ e => zt_sub (z_fn) <| sfM_readsPart_43 N    h10 _ e) (fun _ e => zl hy 2 (pc2 := 37) (lv2 := [(0, .ref l0)]) (st2 := [.int (Int32.ofInt 1), .ref l0]) rfl <| zx_call hy (as := [.ref l0, .int (Int32.ofInt 1)]) (rest := []) (ov := (fun v => some (.int v))) (fun _ => rfl) rfl rfl (Or.inl rfl) rfl rfl (Nat.le_of_ble_eq_true rfl) (Nat.le_of_ble_eq_true rfl) (fun _ e _ => z_rcvT (rfM_stops N l0 (Int32.ofInt 1) h10 _ e)) (fun _ e => zt_deep (Nat.le_of_ble_eq_true rfl) (sfM_stops N l0 (Int32.ofInt 1) h10 _ e)) e fun x11 h12 _ e => zx_c0 hy rfl e (fun _ e => zl hy 2 (pc2 := 47) (lv2 := [(0, .ref l0)]) (st2 := [.ref l0, .ref l0]) rfl <| zx_gR hy rfl e fun x13 _ e => zl hy 1 (pc2 := 51) (lv2 := [(0, .ref l0)]) (st2 := [.int (Int32.ofInt 0), .ref x13, .ref l0]) rfl <| zx_aI hy (j := .iaload) (Or.inl ⟨rfl, rfl⟩) rfl e fun x14 _ e => zl hy 1 (pc2 := 53) (lv2 := [(0, .ref l0)]) (st2 := [.ref l0, .int x14, .ref l0]) rfl <| zx_gR hy rfl e fun x15 _ e => zl hy 1 (pc2 := 57) (lv2 := [(0, .ref l0)]) (st2 := [.int (Int32.ofInt 1), .ref x15, .int x14, .ref l0]) rfl <| zx_aI hy (j := .iaload) (Or.inl ⟨rfl, rfl⟩) rfl e fun x16 _ e => zx_call hy (as := [.ref l0, .int x14, .int x16]) (rest := []) (ov := (fun v => some (.int v))) (fun _ => rfl) rfl rfl (Or.inl rfl) rfl rfl (Nat.le_of_ble_eq_true rfl) (Nat.le_of_ble_eq_true rfl) (fun _ e _ => z_rcvT (rfM_parts N l0 x14 x16 h12 _ e)) (fun _ e => zt_deep (Nat.le_of_ble_eq_true rfl) (sfM_parts N l0 x14 x16 h12 _ e)) e fun x17 h18 _ e => zl hy 2 (pc2 := 63) (lv2 := [(0, .ref l0)]) (st2 := [.int (Int32.ofInt 1)]) rfl <| zx_ret hy (v := .int (Int32.ofInt 1)) rfl rfl (by decide) rfl e) (fun _ e => zt_sub (z_fn) <| sfM_readsPart_43 N    h12 _ e)))
theorem rfM_readsPart (N : Nat) (l0 : Nat) (h : zH) (r : Int32 × zH) (e : fM_readsPart N l0 h = some r) : fT h l0 5 = true := by
  unfold fM_readsPart at e
  exact (cond_some e).1
/-- LyndonBenchModel.readsRotate()Z -/
theorem mfM_readsRotate : z_me 208 zc_208 1 [] (some .boolean) := ⟨z_me0 rfl, rfl, rfl, rfl⟩
abbrev zC_208_23 : List zE := [(23, .iconst 0, 1, 0, 0), (24, .ireturn, 1, 0, 0)]
theorem mfM_readsRotate_23 : z_me 208 zC_208_23 1 [] (some .boolean) := ⟨z_me1 (cd := zc_208) rfl (by decide +kernel), rfl, rfl, rfl⟩
abbrev zC_208_m : List zE := [(0, .aload_n 0, 1, 0, 0), (1, .iconst 0, 1, 0, 0), (2, .iconst 0, 1, 0, 0), (3, .aload_n 0, 1, 0, 0), (4, .getfield 7, 3, 5, 0), (7, .iconst 1, 1, 0, 0), (8, .iaload, 1, 0, 0), (9, .invokevirtual 190, 3, 201, 3), (12, .ifCond .eq 11, 3, 23, 0), (15, .aload_n 0, 1, 0, 0), (16, .iconst 1, 1, 0, 0), (17, .invokevirtual 186, 3, 202, 1), (20, .ifCond .ne 5, 3, 25, 0), (25, .aload_n 0, 1, 0, 0), (26, .aload_n 0, 1, 0, 0), (27, .getfield 42, 3, 5, 23), (30, .iconst 0, 1, 0, 0), (31, .iaload, 1, 0, 0), (32, .invokevirtual 114, 3, 179, 1), (35, .pop, 1, 0, 0), (36, .iconst 1, 1, 0, 0), (37, .ireturn, 1, 0, 0)]
theorem mfM_readsRotate_m : z_me 208 zC_208_m 1 [] (some .boolean) := ⟨z_me1 (cd := zc_208) rfl (by decide +kernel), rfl, rfl, rfl⟩
def fM_readsRotate_23 (N : Nat)   (h : zH) : Option (Int32 × zH) := some ((Int32.ofInt 0), h)
theorem sfM_readsRotate_23 {xs : List Int32} (N : Nat)    (h : zH) (r : Int32 × zH) (e : fM_readsRotate_23 N   h = some r) : zt xs (5) 208 23 [] [] h 0 0 (zQ cI r) := by
  have hy := mfM_readsRotate_23
  unfold fM_readsRotate_23 at e
  exact zl hy 1 (pc2 := 24) (lv2 := []) (st2 := [.int (Int32.ofInt 0)]) rfl <| zx_ret hy (v := .int (Int32.ofInt 0)) rfl rfl (by decide) rfl e
def fM_readsRotate (N : Nat) (l0 : Nat) (h : zH) : Option (Int32 × zH) := cond (fT h l0 5) (b1 (fR h l0 5 0) fun x1 => b1 (fAI h x1 100 (Int32.ofInt 1)) fun x2 => b2 (fM_number N l0 (Int32.ofInt 0) (Int32.ofInt 0) x2 h) fun x3 h4 => cond (z_cmp .eq x3 (Int32.ofInt 0)) (fM_readsRotate_23 N   h4) (b2 (fM_stops N l0 (Int32.ofInt 1) h4) fun x5 h6 => cond (z_cmp .ne x5 (Int32.ofInt 0)) (b1 (fR h6 l0 5 23) fun x7 => b1 (fAI h6 x7 100 (Int32.ofInt 0)) fun x8 => b2 (fM_turns N l0 x8 h6) fun x9 h10 => some ((Int32.ofInt 1), h10)) (fM_readsRotate_23 N   h6))) none
theorem sfM_readsRotate {xs : List Int32} (N : Nat) (l0 : Nat) (h : zH) (r : Int32 × zH) (e : fM_readsRotate N l0 h = some r) : zt xs (5) 208 0 [(0, .ref l0)] [] h 0 0 (zQ cI r) := by
  have hy := mfM_readsRotate_m
  unfold fM_readsRotate at e
  replace e := (cond_some e).2
  exact zl hy 4 (pc2 := 4) (lv2 := [(0, .ref l0)]) (st2 := [.ref l0, .int (Int32.ofInt 0), .int (Int32.ofInt 0), .ref l0]) rfl <| zx_gR hy rfl e fun x1 _ e => zl hy 1 (pc2 := 8) (lv2 := [(0, .ref l0)]) (st2 := [.int (Int32.ofInt 1), .ref x1, .int (Int32.ofInt 0), .int (Int32.ofInt 0), .ref l0]) rfl <| zx_aI hy (j := .iaload) (Or.inl ⟨rfl, rfl⟩) rfl e fun x2 _ e => zx_call hy (as := [.ref l0, .int (Int32.ofInt 0), .int (Int32.ofInt 0), .int x2]) (rest := []) (ov := (fun v => some (.int v))) (fun _ => rfl) rfl rfl (Or.inl rfl) rfl rfl (Nat.le_of_ble_eq_true rfl) (Nat.le_of_ble_eq_true rfl) (fun _ e _ => z_rcvT (rfM_number N l0 (Int32.ofInt 0) (Int32.ofInt 0) x2 h _ e)) (fun _ e => zt_deep (Nat.le_of_ble_eq_true rfl) (sfM_number N l0 (Int32.ofInt 0) (Int32.ofInt 0) x2 h _ e)) e fun x3 h4 _ e => zx_c0 hy rfl e (fun _ e => zt_sub (z_fn) <| sfM_readsRotate_23 N    h4 _ e) (fun _ e => zl hy 2 (pc2 := 17) (lv2 := [(0, .ref l0)]) (st2 := [.int (Int32.ofInt 1), .ref l0]) rfl <| zx_call hy (as := [.ref l0, .int (Int32.ofInt 1)]) (rest := []) (ov := (fun v => some (.int v))) (fun _ => rfl) rfl rfl (Or.inl rfl) rfl rfl (Nat.le_of_ble_eq_true rfl) (Nat.le_of_ble_eq_true rfl) (fun _ e _ => z_rcvT (rfM_stops N l0 (Int32.ofInt 1) h4 _ e)) (fun _ e => zt_deep (Nat.le_of_ble_eq_true rfl) (sfM_stops N l0 (Int32.ofInt 1) h4 _ e)) e fun x5 h6 _ e => zx_c0 hy rfl e (fun _ e => zl hy 2 (pc2 := 27) (lv2 := [(0, .ref l0)]) (st2 := [.ref l0, .ref l0]) rfl <| zx_gR hy rfl e fun x7 _ e => zl hy 1 (pc2 := 31) (lv2 := [(0, .ref l0)]) (st2 := [.int (Int32.ofInt 0), .ref x7, .ref l0]) rfl <| zx_aI hy (j := .iaload) (Or.inl ⟨rfl, rfl⟩) rfl e fun x8 _ e => zx_call hy (as := [.ref l0, .int x8]) (rest := []) (ov := (fun v => some (.int v))) (fun _ => rfl) rfl rfl (Or.inl rfl) rfl rfl (Nat.le_of_ble_eq_true rfl) (Nat.le_of_ble_eq_true rfl) (fun _ e _ => z_rcvT (rfM_turns N l0 x8 h6 _ e)) (fun _ e => zt_deep (Nat.le_of_ble_eq_true rfl) (sfM_turns N l0 x8 h6 _ e)) e fun x9 h10 _ e => zl hy 2 (pc2 := 37) (lv2 := [(0, .ref l0)]) (st2 := [.int (Int32.ofInt 1)]) rfl <| zx_ret hy (v := .int (Int32.ofInt 1)) rfl rfl (by decide) rfl e) (fun _ e => zt_sub (z_fn) <| sfM_readsRotate_23 N    h6 _ e))
theorem rfM_readsRotate (N : Nat) (l0 : Nat) (h : zH) (r : Int32 × zH) (e : fM_readsRotate N l0 h = some r) : fT h l0 5 = true := by
  unfold fM_readsRotate at e
  exact (cond_some e).1
/-- LyndonBenchModel.readsReverse()Z -/
theorem mfM_readsReverse : z_me 209 zc_209 1 [] (some .boolean) := ⟨z_me0 rfl, rfl, rfl, rfl⟩
def fM_readsReverse (N : Nat) (l0 : Nat) (h : zH) : Option (Int32 × zH) := cond (fT h l0 5) (b2 (fM_stops N l0 (Int32.ofInt 1) h) fun x1 h2 => cond (z_cmp .ne x1 (Int32.ofInt 0)) (b2 (fM_mirrors N l0 h2) fun x3 h4 => some ((Int32.ofInt 1), h4)) (some ((Int32.ofInt 0), h2))) none
theorem sfM_readsReverse {xs : List Int32} (N : Nat) (l0 : Nat) (h : zH) (r : Int32 × zH) (e : fM_readsReverse N l0 h = some r) : zt xs (5) 209 0 [(0, .ref l0)] [] h 0 0 (zQ cI r) := by
  have hy := mfM_readsReverse
  unfold fM_readsReverse at e
  replace e := (cond_some e).2
  exact zl hy 2 (pc2 := 2) (lv2 := [(0, .ref l0)]) (st2 := [.int (Int32.ofInt 1), .ref l0]) rfl <| zx_call hy (as := [.ref l0, .int (Int32.ofInt 1)]) (rest := []) (ov := (fun v => some (.int v))) (fun _ => rfl) rfl rfl (Or.inl rfl) rfl rfl (Nat.le_of_ble_eq_true rfl) (Nat.le_of_ble_eq_true rfl) (fun _ e _ => z_rcvT (rfM_stops N l0 (Int32.ofInt 1) h _ e)) (fun _ e => zt_deep (Nat.le_of_ble_eq_true rfl) (sfM_stops N l0 (Int32.ofInt 1) h _ e)) e fun x1 h2 _ e => zx_c0 hy rfl e (fun _ e => zl hy 1 (pc2 := 11) (lv2 := [(0, .ref l0)]) (st2 := [.ref l0]) rfl <| zx_call hy (as := [.ref l0]) (rest := []) (ov := (fun v => some (.int v))) (fun _ => rfl) rfl rfl (Or.inl rfl) rfl rfl (Nat.le_of_ble_eq_true rfl) (Nat.le_of_ble_eq_true rfl) (fun _ e _ => z_rcvT (rfM_mirrors N l0 h2 _ e)) (fun _ e => zt_deep (Nat.le_of_ble_eq_true rfl) (sfM_mirrors N l0 h2 _ e)) e fun x3 h4 _ e => zl hy 2 (pc2 := 16) (lv2 := [(0, .ref l0)]) (st2 := [.int (Int32.ofInt 1)]) rfl <| zx_ret hy (v := .int (Int32.ofInt 1)) rfl rfl (by decide) rfl e) (fun _ e => zl hy 1 (pc2 := 9) (lv2 := [(0, .ref l0)]) (st2 := [.int (Int32.ofInt 0)]) rfl <| zx_ret hy (v := .int (Int32.ofInt 0)) rfl rfl (by decide) rfl e)
theorem rfM_readsReverse (N : Nat) (l0 : Nat) (h : zH) (r : Int32 × zH) (e : fM_readsReverse N l0 h = some r) : fT h l0 5 = true := by
  unfold fM_readsReverse at e
  exact (cond_some e).1
/-- LyndonBenchModel.readsLeast()Z -/
theorem mfM_readsLeast : z_me 210 zc_210 1 [] (some .boolean) := ⟨z_me0 rfl, rfl, rfl, rfl⟩
def fM_readsLeast_15 (N : Nat)  (l0 : Nat) (s0 : Int32) (s1 : Nat) (h : zH) : Option (Int32 × zH) := b2 (fM_stops N s1 s0 h) fun x3 h4 => cond (z_cmp .ne x3 (Int32.ofInt 0)) (b2 (fM_turnsToLeast N l0 h4) fun x5 h6 => some ((Int32.ofInt 1), h6)) (some ((Int32.ofInt 0), h4))
theorem sfM_readsLeast_15 {xs : List Int32} (N : Nat)   (l0 : Nat) (s0 : Int32) (s1 : Nat) (h : zH) (r : Int32 × zH) (e : fM_readsLeast_15 N  l0 s0 s1 h = some r) : zt xs (6) 210 15 [(0, .ref l0)] [.int s0, .ref s1] h 0 0 (zQ cI r) := by
  have hy := mfM_readsLeast
  unfold fM_readsLeast_15 at e
  exact zx_call hy (as := [.ref s1, .int s0]) (rest := []) (ov := (fun v => some (.int v))) (fun _ => rfl) rfl rfl (Or.inl rfl) rfl rfl (Nat.le_of_ble_eq_true rfl) (Nat.le_of_ble_eq_true rfl) (fun _ e _ => z_rcvT (rfM_stops N s1 s0 h _ e)) (fun _ e => zt_deep (Nat.le_of_ble_eq_true rfl) (sfM_stops N s1 s0 h _ e)) e fun x3 h4 _ e => zx_c0 hy rfl e (fun _ e => zl hy 1 (pc2 := 24) (lv2 := [(0, .ref l0)]) (st2 := [.ref l0]) rfl <| zx_call hy (as := [.ref l0]) (rest := []) (ov := (fun v => some (.int v))) (fun _ => rfl) rfl rfl (Or.inl rfl) rfl rfl (Nat.le_of_ble_eq_true rfl) (Nat.le_of_ble_eq_true rfl) (fun _ e _ => z_rcvT (rfM_turnsToLeast N l0 h4 _ e)) (fun _ e => zt_deep (Nat.le_of_ble_eq_true rfl) (sfM_turnsToLeast N l0 h4 _ e)) e fun x5 h6 _ e => zl hy 2 (pc2 := 29) (lv2 := [(0, .ref l0)]) (st2 := [.int (Int32.ofInt 1)]) rfl <| zx_ret hy (v := .int (Int32.ofInt 1)) rfl rfl (by decide) rfl e) (fun _ e => zl hy 1 (pc2 := 22) (lv2 := [(0, .ref l0)]) (st2 := [.int (Int32.ofInt 0)]) rfl <| zx_ret hy (v := .int (Int32.ofInt 0)) rfl rfl (by decide) rfl e)
def fM_readsLeast (N : Nat) (l0 : Nat) (h : zH) : Option (Int32 × zH) := cond (fT h l0 5) (b1 (fR h l0 5 0) fun x1 => b1 (fAI h x1 100 (Int32.ofInt 1)) fun x2 => cond (z_cmp .le x2 (Int32.ofInt 0)) (fM_readsLeast_15 N  l0 (Int32.ofInt 0) l0 h) (fM_readsLeast_15 N  l0 (Int32.ofInt 1) l0 h)) none
theorem sfM_readsLeast {xs : List Int32} (N : Nat) (l0 : Nat) (h : zH) (r : Int32 × zH) (e : fM_readsLeast N l0 h = some r) : zt xs (6) 210 0 [(0, .ref l0)] [] h 0 0 (zQ cI r) := by
  have hy := mfM_readsLeast
  unfold fM_readsLeast at e
  replace e := (cond_some e).2
  exact zl hy 2 (pc2 := 2) (lv2 := [(0, .ref l0)]) (st2 := [.ref l0, .ref l0]) rfl <| zx_gR hy rfl e fun x1 _ e => zl hy 1 (pc2 := 6) (lv2 := [(0, .ref l0)]) (st2 := [.int (Int32.ofInt 1), .ref x1, .ref l0]) rfl <| zx_aI hy (j := .iaload) (Or.inl ⟨rfl, rfl⟩) rfl e fun x2 _ e => zx_c0 hy rfl e (fun _ e => zl hy 1 (pc2 := 15) (lv2 := [(0, .ref l0)]) (st2 := [.int (Int32.ofInt 0), .ref l0]) rfl <| zt_sub (z_fc rfl (z_fn)) <| sfM_readsLeast_15 N   l0 (Int32.ofInt 0) l0 h _ e) (fun _ e => zl hy 2 (pc2 := 15) (lv2 := [(0, .ref l0)]) (st2 := [.int (Int32.ofInt 1), .ref l0]) rfl <| zt_sub (z_fc rfl (z_fn)) <| sfM_readsLeast_15 N   l0 (Int32.ofInt 1) l0 h _ e)
theorem rfM_readsLeast (N : Nat) (l0 : Nat) (h : zH) (r : Int32 × zH) (e : fM_readsLeast N l0 h = some r) : fT h l0 5 = true := by
  unfold fM_readsLeast at e
  exact (cond_some e).1
/-- LyndonBenchModel.readsNext()Z -/
theorem mfM_readsNext : z_me 211 zc_211 1 [] (some .boolean) := ⟨z_me0 rfl, rfl, rfl, rfl⟩
abbrev zC_211_28 : List zE := [(28, .iconst 0, 1, 0, 0), (29, .ireturn, 1, 0, 0)]
theorem mfM_readsNext_28 : z_me 211 zC_211_28 1 [] (some .boolean) := ⟨z_me1 (cd := zc_211) rfl (by decide +kernel), rfl, rfl, rfl⟩
abbrev zC_211_m : List zE := [(0, .aload_n 0, 1, 0, 0), (1, .iconst 0, 1, 0, 0), (2, .iconst 1, 1, 0, 0), (3, .bipush 120, 2, 0, 0), (5, .invokevirtual 190, 3, 201, 3), (8, .ifCond .eq 20, 3, 28, 0), (11, .aload_n 0, 1, 0, 0), (12, .aload_n 0, 1, 0, 0), (13, .aload_n 0, 1, 0, 0), (14, .getfield 42, 3, 5, 23), (17, .iconst 0, 1, 0, 0), (18, .iaload, 1, 0, 0), (19, .invokevirtual 205, 3, 183, 1), (22, .invokevirtual 186, 3, 202, 1), (25, .ifCond .ne 5, 3, 30, 0), (30, .aload_n 0, 1, 0, 0), (31, .aload_n 0, 1, 0, 0), (32, .getfield 42, 3, 5, 23), (35, .iconst 0, 1, 0, 0), (36, .iaload, 1, 0, 0), (37, .invokevirtual 208, 3, 184, 1), (40, .pop, 1, 0, 0), (41, .iconst 1, 1, 0, 0), (42, .ireturn, 1, 0, 0)]
theorem mfM_readsNext_m : z_me 211 zC_211_m 1 [] (some .boolean) := ⟨z_me1 (cd := zc_211) rfl (by decide +kernel), rfl, rfl, rfl⟩
def fM_readsNext_28 (N : Nat)   (h : zH) : Option (Int32 × zH) := some ((Int32.ofInt 0), h)
theorem sfM_readsNext_28 {xs : List Int32} (N : Nat)    (h : zH) (r : Int32 × zH) (e : fM_readsNext_28 N   h = some r) : zt xs (5) 211 28 [] [] h 0 0 (zQ cI r) := by
  have hy := mfM_readsNext_28
  unfold fM_readsNext_28 at e
  exact zl hy 1 (pc2 := 29) (lv2 := []) (st2 := [.int (Int32.ofInt 0)]) rfl <| zx_ret hy (v := .int (Int32.ofInt 0)) rfl rfl (by decide) rfl e
def fM_readsNext (N : Nat) (l0 : Nat) (h : zH) : Option (Int32 × zH) := cond (fT h l0 5) (b2 (fM_number N l0 (Int32.ofInt 0) (Int32.ofInt 1) (Int32.ofInt 120) h) fun x1 h2 => cond (z_cmp .eq x1 (Int32.ofInt 0)) (fM_readsNext_28 N   h2) (b1 (fR h2 l0 5 23) fun x3 => b1 (fAI h2 x3 100 (Int32.ofInt 0)) fun x4 => b2 (fM_hasNext N l0 x4 h2) fun x5 h6 => b2 (fM_stops N l0 x5 h6) fun x7 h8 => cond (z_cmp .ne x7 (Int32.ofInt 0)) (b1 (fR h8 l0 5 23) fun x9 => b1 (fAI h8 x9 100 (Int32.ofInt 0)) fun x10 => b2 (fM_goesOn N l0 x10 h8) fun x11 h12 => some ((Int32.ofInt 1), h12)) (fM_readsNext_28 N   h8))) none
theorem sfM_readsNext {xs : List Int32} (N : Nat) (l0 : Nat) (h : zH) (r : Int32 × zH) (e : fM_readsNext N l0 h = some r) : zt xs (5) 211 0 [(0, .ref l0)] [] h 0 0 (zQ cI r) := by
  have hy := mfM_readsNext_m
  unfold fM_readsNext at e
  replace e := (cond_some e).2
  exact zl hy 3 (pc2 := 3) (lv2 := [(0, .ref l0)]) (st2 := [.int (Int32.ofInt 1), .int (Int32.ofInt 0), .ref l0]) rfl <| zx_bip hy (c := 120) rfl (by decide) <| zx_call hy (as := [.ref l0, .int (Int32.ofInt 0), .int (Int32.ofInt 1), .int (Int32.ofInt 120)]) (rest := []) (ov := (fun v => some (.int v))) (fun _ => rfl) rfl rfl (Or.inl rfl) rfl rfl (Nat.le_of_ble_eq_true rfl) (Nat.le_of_ble_eq_true rfl) (fun _ e _ => z_rcvT (rfM_number N l0 (Int32.ofInt 0) (Int32.ofInt 1) (Int32.ofInt 120) h _ e)) (fun _ e => zt_deep (Nat.le_of_ble_eq_true rfl) (sfM_number N l0 (Int32.ofInt 0) (Int32.ofInt 1) (Int32.ofInt 120) h _ e)) e fun x1 h2 _ e => zx_c0 hy rfl e (fun _ e => zt_sub (z_fn) <| sfM_readsNext_28 N    h2 _ e) (fun _ e => zl hy 3 (pc2 := 14) (lv2 := [(0, .ref l0)]) (st2 := [.ref l0, .ref l0, .ref l0]) rfl <| zx_gR hy rfl e fun x3 _ e => zl hy 1 (pc2 := 18) (lv2 := [(0, .ref l0)]) (st2 := [.int (Int32.ofInt 0), .ref x3, .ref l0, .ref l0]) rfl <| zx_aI hy (j := .iaload) (Or.inl ⟨rfl, rfl⟩) rfl e fun x4 _ e => zx_call hy (as := [.ref l0, .int x4]) (rest := [.ref l0]) (ov := (fun v => some (.int v))) (fun _ => rfl) rfl rfl (Or.inl rfl) rfl rfl (Nat.le_of_ble_eq_true rfl) (Nat.le_of_ble_eq_true rfl) (fun _ e _ => z_rcvT (rfM_hasNext N l0 x4 h2 _ e)) (fun _ e => zt_deep (Nat.le_of_ble_eq_true rfl) (sfM_hasNext N l0 x4 h2 _ e)) e fun x5 h6 _ e => zx_call hy (as := [.ref l0, .int x5]) (rest := []) (ov := (fun v => some (.int v))) (fun _ => rfl) rfl rfl (Or.inl rfl) rfl rfl (Nat.le_of_ble_eq_true rfl) (Nat.le_of_ble_eq_true rfl) (fun _ e _ => z_rcvT (rfM_stops N l0 x5 h6 _ e)) (fun _ e => zt_deep (Nat.le_of_ble_eq_true rfl) (sfM_stops N l0 x5 h6 _ e)) e fun x7 h8 _ e => zx_c0 hy rfl e (fun _ e => zl hy 2 (pc2 := 32) (lv2 := [(0, .ref l0)]) (st2 := [.ref l0, .ref l0]) rfl <| zx_gR hy rfl e fun x9 _ e => zl hy 1 (pc2 := 36) (lv2 := [(0, .ref l0)]) (st2 := [.int (Int32.ofInt 0), .ref x9, .ref l0]) rfl <| zx_aI hy (j := .iaload) (Or.inl ⟨rfl, rfl⟩) rfl e fun x10 _ e => zx_call hy (as := [.ref l0, .int x10]) (rest := []) (ov := (fun v => some (.int v))) (fun _ => rfl) rfl rfl (Or.inl rfl) rfl rfl (Nat.le_of_ble_eq_true rfl) (Nat.le_of_ble_eq_true rfl) (fun _ e _ => z_rcvT (rfM_goesOn N l0 x10 h8 _ e)) (fun _ e => zt_deep (Nat.le_of_ble_eq_true rfl) (sfM_goesOn N l0 x10 h8 _ e)) e fun x11 h12 _ e => zl hy 2 (pc2 := 42) (lv2 := [(0, .ref l0)]) (st2 := [.int (Int32.ofInt 1)]) rfl <| zx_ret hy (v := .int (Int32.ofInt 1)) rfl rfl (by decide) rfl e) (fun _ e => zt_sub (z_fn) <| sfM_readsNext_28 N    h8 _ e))
theorem rfM_readsNext (N : Nat) (l0 : Nat) (h : zH) (r : Int32 × zH) (e : fM_readsNext N l0 h = some r) : fT h l0 5 = true := by
  unfold fM_readsNext at e
  exact (cond_some e).1
/-- LyndonBenchModel.readsKeep()Z -/
theorem mfM_readsKeep : z_me 212 zc_212 2 [] (some .boolean) := ⟨z_me0 rfl, rfl, rfl, rfl⟩
abbrev zC_212_69 : List zE := [(69, .iconst 0, 1, 0, 0), (70, .ireturn, 1, 0, 0)]
theorem mfM_readsKeep_69 : z_me 212 zC_212_69 2 [] (some .boolean) := ⟨z_me1 (cd := zc_212) rfl (by decide +kernel), rfl, rfl, rfl⟩
abbrev zC_212_m : List zE := [(0, .aload_n 0, 1, 0, 0), (1, .getfield 158, 3, 5, 18), (4, .iconst 3, 1, 0, 0), (5, .if_icmp .eq 30, 3, 35, 0), (8, .aload_n 0, 1, 0, 0), (9, .aload_n 0, 1, 0, 0), (10, .invokevirtual 211, 3, 187, 0), (13, .invokevirtual 186, 3, 202, 1), (16, .ifCond .ne 5, 3, 21, 0), (19, .iconst 0, 1, 0, 0), (20, .ireturn, 1, 0, 0), (21, .aload_n 0, 1, 0, 0), (22, .iconst 0, 1, 0, 0), (23, .aload_n 0, 1, 0, 0), (24, .getfield 7, 3, 5, 0), (27, .iconst 1, 1, 0, 0), (28, .iaload, 1, 0, 0), (29, .invokevirtual 123, 3, 185, 2), (32, .pop, 1, 0, 0), (33, .iconst 1, 1, 0, 0), (34, .ireturn, 1, 0, 0), (35, .aload_n 0, 1, 0, 0), (36, .invokevirtual 105, 3, 160, 0), (39, .istore_n 1, 1, 0, 0), (40, .aload_n 0, 1, 0, 0), (41, .iconst 0, 1, 0, 0), (42, .iconst 0, 1, 0, 0), (43, .iload_n 1, 1, 0, 0), (44, .iconst 1, 1, 0, 0), (45, .isub, 1, 0, 0), (46, .invokevirtual 190, 3, 201, 3), (49, .ifCond .eq 20, 3, 69, 0), (52, .aload_n 0, 1, 0, 0), (53, .aload_n 0, 1, 0, 0), (54, .aload_n 0, 1, 0, 0), (55, .getfield 42, 3, 5, 23), (58, .iconst 0, 1, 0, 0), (59, .iaload, 1, 0, 0), (60, .invokevirtual 214, 3, 186, 1), (63, .invokevirtual 186, 3, 202, 1), (66, .ifCond .ne 5, 3, 71, 0), (71, .aload_n 0, 1, 0, 0), (72, .aload_n 0, 1, 0, 0), (73, .getfield 42, 3, 5, 23), (76, .iconst 0, 1, 0, 0), (77, .iaload, 1, 0, 0), (78, .invokevirtual 217, 3, 188, 1), (81, .pop, 1, 0, 0), (82, .iconst 1, 1, 0, 0), (83, .ireturn, 1, 0, 0)]
theorem mfM_readsKeep_m : z_me 212 zC_212_m 2 [] (some .boolean) := ⟨z_me1 (cd := zc_212) rfl (by decide +kernel), rfl, rfl, rfl⟩
def fM_readsKeep_69 (N : Nat)   (h : zH) : Option (Int32 × zH) := some ((Int32.ofInt 0), h)
theorem sfM_readsKeep_69 {xs : List Int32} (N : Nat)    (h : zH) (r : Int32 × zH) (e : fM_readsKeep_69 N   h = some r) : zt xs (5) 212 69 [] [] h 0 0 (zQ cI r) := by
  have hy := mfM_readsKeep_69
  unfold fM_readsKeep_69 at e
  exact zl hy 1 (pc2 := 70) (lv2 := []) (st2 := [.int (Int32.ofInt 0)]) rfl <| zx_ret hy (v := .int (Int32.ofInt 0)) rfl rfl (by decide) rfl e
def fM_readsKeep (N : Nat) (l0 : Nat) (h : zH) : Option (Int32 × zH) := cond (fT h l0 5) (b1 (fI h l0 5 18) fun x1 => cond (z_cmp .eq x1 (Int32.ofInt 3)) (b2 (fM_factors N l0 h) fun x2 h3 => b2 (fM_number N l0 (Int32.ofInt 0) (Int32.ofInt 0) (x2 - (Int32.ofInt 1)) h3) fun x4 h5 => cond (z_cmp .eq x4 (Int32.ofInt 0)) (fM_readsKeep_69 N   h5) (b1 (fR h5 l0 5 23) fun x6 => b1 (fAI h5 x6 100 (Int32.ofInt 0)) fun x7 => b2 (fM_canKeepFactor N l0 x7 h5) fun x8 h9 => b2 (fM_stops N l0 x8 h9) fun x10 h11 => cond (z_cmp .ne x10 (Int32.ofInt 0)) (b1 (fR h11 l0 5 23) fun x12 => b1 (fAI h11 x12 100 (Int32.ofInt 0)) fun x13 => b2 (fM_keepsFactor N l0 x13 h11) fun x14 h15 => some ((Int32.ofInt 1), h15)) (fM_readsKeep_69 N   h11))) (b2 (fM_canKeepText N l0 h) fun x16 h17 => b2 (fM_stops N l0 x16 h17) fun x18 h19 => cond (z_cmp .ne x18 (Int32.ofInt 0)) (b1 (fR h19 l0 5 0) fun x20 => b1 (fAI h19 x20 100 (Int32.ofInt 1)) fun x21 => b2 (fM_shelves N l0 (Int32.ofInt 0) x21 h19) fun x22 h23 => some ((Int32.ofInt 1), h23)) (some ((Int32.ofInt 0), h19)))) none
theorem sfM_readsKeep {xs : List Int32} (N : Nat) (l0 : Nat) (h : zH) (r : Int32 × zH) (e : fM_readsKeep N l0 h = some r) : zt xs (5) 212 0 [(0, .ref l0)] [] h 0 0 (zQ cI r) := by
  have hy := mfM_readsKeep_m
  unfold fM_readsKeep at e
  replace e := (cond_some e).2
  exact zl hy 1 (pc2 := 1) (lv2 := [(0, .ref l0)]) (st2 := [.ref l0]) rfl <| zx_gI hy rfl e fun x1 _ e => zl hy 1 (pc2 := 5) (lv2 := [(0, .ref l0)]) (st2 := [.int (Int32.ofInt 3), .int x1]) rfl <| zx_c hy rfl e (fun _ e => zl hy 1 (pc2 := 36) (lv2 := [(0, .ref l0)]) (st2 := [.ref l0]) rfl <| zx_call hy (as := [.ref l0]) (rest := []) (ov := (fun v => some (.int v))) (fun _ => rfl) rfl rfl (Or.inl rfl) rfl rfl (Nat.le_of_ble_eq_true rfl) (Nat.le_of_ble_eq_true rfl) (fun _ e _ => z_rcvT (rfM_factors N l0 h _ e)) (fun _ e => zt_deep (Nat.le_of_ble_eq_true rfl) (sfM_factors N l0 h _ e)) e fun x2 h3 _ e => zl hy 7 (pc2 := 46) (lv2 := [(1, .int x2), (0, .ref l0)]) (st2 := [.int (x2 - (Int32.ofInt 1)), .int (Int32.ofInt 0), .int (Int32.ofInt 0), .ref l0]) rfl <| zx_call hy (as := [.ref l0, .int (Int32.ofInt 0), .int (Int32.ofInt 0), .int (x2 - (Int32.ofInt 1))]) (rest := []) (ov := (fun v => some (.int v))) (fun _ => rfl) rfl rfl (Or.inl rfl) rfl rfl (Nat.le_of_ble_eq_true rfl) (Nat.le_of_ble_eq_true rfl) (fun _ e _ => z_rcvT (rfM_number N l0 (Int32.ofInt 0) (Int32.ofInt 0) (x2 - (Int32.ofInt 1)) h3 _ e)) (fun _ e => zt_deep (Nat.le_of_ble_eq_true rfl) (sfM_number N l0 (Int32.ofInt 0) (Int32.ofInt 0) (x2 - (Int32.ofInt 1)) h3 _ e)) e fun x4 h5 _ e => zx_c0 hy rfl e (fun _ e => zt_sub (z_fn) <| sfM_readsKeep_69 N    h5 _ e) (fun _ e => zl hy 3 (pc2 := 55) (lv2 := [(1, .int x2), (0, .ref l0)]) (st2 := [.ref l0, .ref l0, .ref l0]) rfl <| zx_gR hy rfl e fun x6 _ e => zl hy 1 (pc2 := 59) (lv2 := [(1, .int x2), (0, .ref l0)]) (st2 := [.int (Int32.ofInt 0), .ref x6, .ref l0, .ref l0]) rfl <| zx_aI hy (j := .iaload) (Or.inl ⟨rfl, rfl⟩) rfl e fun x7 _ e => zx_call hy (as := [.ref l0, .int x7]) (rest := [.ref l0]) (ov := (fun v => some (.int v))) (fun _ => rfl) rfl rfl (Or.inl rfl) rfl rfl (Nat.le_of_ble_eq_true rfl) (Nat.le_of_ble_eq_true rfl) (fun _ e _ => z_rcvT (rfM_canKeepFactor N l0 x7 h5 _ e)) (fun _ e => zt_deep (Nat.le_of_ble_eq_true rfl) (sfM_canKeepFactor N l0 x7 h5 _ e)) e fun x8 h9 _ e => zx_call hy (as := [.ref l0, .int x8]) (rest := []) (ov := (fun v => some (.int v))) (fun _ => rfl) rfl rfl (Or.inl rfl) rfl rfl (Nat.le_of_ble_eq_true rfl) (Nat.le_of_ble_eq_true rfl) (fun _ e _ => z_rcvT (rfM_stops N l0 x8 h9 _ e)) (fun _ e => zt_deep (Nat.le_of_ble_eq_true rfl) (sfM_stops N l0 x8 h9 _ e)) e fun x10 h11 _ e => zx_c0 hy rfl e (fun _ e => zl hy 2 (pc2 := 73) (lv2 := [(1, .int x2), (0, .ref l0)]) (st2 := [.ref l0, .ref l0]) rfl <| zx_gR hy rfl e fun x12 _ e => zl hy 1 (pc2 := 77) (lv2 := [(1, .int x2), (0, .ref l0)]) (st2 := [.int (Int32.ofInt 0), .ref x12, .ref l0]) rfl <| zx_aI hy (j := .iaload) (Or.inl ⟨rfl, rfl⟩) rfl e fun x13 _ e => zx_call hy (as := [.ref l0, .int x13]) (rest := []) (ov := (fun v => some (.int v))) (fun _ => rfl) rfl rfl (Or.inl rfl) rfl rfl (Nat.le_of_ble_eq_true rfl) (Nat.le_of_ble_eq_true rfl) (fun _ e _ => z_rcvT (rfM_keepsFactor N l0 x13 h11 _ e)) (fun _ e => zt_deep (Nat.le_of_ble_eq_true rfl) (sfM_keepsFactor N l0 x13 h11 _ e)) e fun x14 h15 _ e => zl hy 2 (pc2 := 83) (lv2 := [(1, .int x2), (0, .ref l0)]) (st2 := [.int (Int32.ofInt 1)]) rfl <| zx_ret hy (v := .int (Int32.ofInt 1)) rfl rfl (by decide) rfl e) (fun _ e => zt_sub (z_fn) <| sfM_readsKeep_69 N    h11 _ e))) (fun _ e => zl hy 2 (pc2 := 10) (lv2 := [(0, .ref l0)]) (st2 := [.ref l0, .ref l0]) rfl <| zx_call hy (as := [.ref l0]) (rest := [.ref l0]) (ov := (fun v => some (.int v))) (fun _ => rfl) rfl rfl (Or.inl rfl) rfl rfl (Nat.le_of_ble_eq_true rfl) (Nat.le_of_ble_eq_true rfl) (fun _ e _ => z_rcvT (rfM_canKeepText N l0 h _ e)) (fun _ e => zt_deep (Nat.le_of_ble_eq_true rfl) (sfM_canKeepText N l0 h _ e)) e fun x16 h17 _ e => zx_call hy (as := [.ref l0, .int x16]) (rest := []) (ov := (fun v => some (.int v))) (fun _ => rfl) rfl rfl (Or.inl rfl) rfl rfl (Nat.le_of_ble_eq_true rfl) (Nat.le_of_ble_eq_true rfl) (fun _ e _ => z_rcvT (rfM_stops N l0 x16 h17 _ e)) (fun _ e => zt_deep (Nat.le_of_ble_eq_true rfl) (sfM_stops N l0 x16 h17 _ e)) e fun x18 h19 _ e => zx_c0 hy rfl e (fun _ e => zl hy 3 (pc2 := 24) (lv2 := [(0, .ref l0)]) (st2 := [.ref l0, .int (Int32.ofInt 0), .ref l0]) rfl <| zx_gR hy rfl e fun x20 _ e => zl hy 1 (pc2 := 28) (lv2 := [(0, .ref l0)]) (st2 := [.int (Int32.ofInt 1), .ref x20, .int (Int32.ofInt 0), .ref l0]) rfl <| zx_aI hy (j := .iaload) (Or.inl ⟨rfl, rfl⟩) rfl e fun x21 _ e => zx_call hy (as := [.ref l0, .int (Int32.ofInt 0), .int x21]) (rest := []) (ov := (fun v => some (.int v))) (fun _ => rfl) rfl rfl (Or.inl rfl) rfl rfl (Nat.le_of_ble_eq_true rfl) (Nat.le_of_ble_eq_true rfl) (fun _ e _ => z_rcvT (rfM_shelves N l0 (Int32.ofInt 0) x21 h19 _ e)) (fun _ e => zt_deep (Nat.le_of_ble_eq_true rfl) (sfM_shelves N l0 (Int32.ofInt 0) x21 h19 _ e)) e fun x22 h23 _ e => zl hy 2 (pc2 := 34) (lv2 := [(0, .ref l0)]) (st2 := [.int (Int32.ofInt 1)]) rfl <| zx_ret hy (v := .int (Int32.ofInt 1)) rfl rfl (by decide) rfl e) (fun _ e => zl hy 1 (pc2 := 20) (lv2 := [(0, .ref l0)]) (st2 := [.int (Int32.ofInt 0)]) rfl <| zx_ret hy (v := .int (Int32.ofInt 0)) rfl rfl (by decide) rfl e))
theorem rfM_readsKeep (N : Nat) (l0 : Nat) (h : zH) (r : Int32 × zH) (e : fM_readsKeep N l0 h = some r) : fT h l0 5 = true := by
  unfold fM_readsKeep at e
  exact (cond_some e).1
/-- LyndonBenchModel.readsRemove()Z -/
theorem mfM_readsRemove : z_me 213 zc_213 1 [] (some .boolean) := ⟨z_me0 rfl, rfl, rfl, rfl⟩
abbrev zC_213_25 : List zE := [(25, .iconst 0, 1, 0, 0), (26, .ireturn, 1, 0, 0)]
theorem mfM_readsRemove_25 : z_me 213 zC_213_25 1 [] (some .boolean) := ⟨z_me1 (cd := zc_213) rfl (by decide +kernel), rfl, rfl, rfl⟩
abbrev zC_213_m : List zE := [(0, .aload_n 0, 1, 0, 0), (1, .iconst 0, 1, 0, 0), (2, .iconst 0, 1, 0, 0), (3, .aload_n 0, 1, 0, 0), (4, .getfield 7, 3, 5, 0), (7, .iconst 2, 1, 0, 0), (8, .iaload, 1, 0, 0), (9, .iconst 1, 1, 0, 0), (10, .isub, 1, 0, 0), (11, .invokevirtual 190, 3, 201, 3), (14, .ifCond .eq 11, 3, 25, 0), (17, .aload_n 0, 1, 0, 0), (18, .iconst 1, 1, 0, 0), (19, .invokevirtual 186, 3, 202, 1), (22, .ifCond .ne 5, 3, 27, 0), (27, .aload_n 0, 1, 0, 0), (28, .aload_n 0, 1, 0, 0), (29, .getfield 42, 3, 5, 23), (32, .iconst 0, 1, 0, 0), (33, .iaload, 1, 0, 0), (34, .invokevirtual 220, 3, 189, 1), (37, .pop, 1, 0, 0), (38, .iconst 1, 1, 0, 0), (39, .ireturn, 1, 0, 0)]
theorem mfM_readsRemove_m : z_me 213 zC_213_m 1 [] (some .boolean) := ⟨z_me1 (cd := zc_213) rfl (by decide +kernel), rfl, rfl, rfl⟩
def fM_readsRemove_25 (N : Nat)   (h : zH) : Option (Int32 × zH) := some ((Int32.ofInt 0), h)
theorem sfM_readsRemove_25 {xs : List Int32} (N : Nat)    (h : zH) (r : Int32 × zH) (e : fM_readsRemove_25 N   h = some r) : zt xs (4) 213 25 [] [] h 0 0 (zQ cI r) := by
  have hy := mfM_readsRemove_25
  unfold fM_readsRemove_25 at e
  exact zl hy 1 (pc2 := 26) (lv2 := []) (st2 := [.int (Int32.ofInt 0)]) rfl <| zx_ret hy (v := .int (Int32.ofInt 0)) rfl rfl (by decide) rfl e
def fM_readsRemove (N : Nat) (l0 : Nat) (h : zH) : Option (Int32 × zH) := cond (fT h l0 5) (b1 (fR h l0 5 0) fun x1 => b1 (fAI h x1 100 (Int32.ofInt 2)) fun x2 => b2 (fM_number N l0 (Int32.ofInt 0) (Int32.ofInt 0) (x2 - (Int32.ofInt 1)) h) fun x3 h4 => cond (z_cmp .eq x3 (Int32.ofInt 0)) (fM_readsRemove_25 N   h4) (b2 (fM_stops N l0 (Int32.ofInt 1) h4) fun x5 h6 => cond (z_cmp .ne x5 (Int32.ofInt 0)) (b1 (fR h6 l0 5 23) fun x7 => b1 (fAI h6 x7 100 (Int32.ofInt 0)) fun x8 => b2 (fM_removes N l0 x8 h6) fun x9 h10 => some ((Int32.ofInt 1), h10)) (fM_readsRemove_25 N   h6))) none
theorem sfM_readsRemove {xs : List Int32} (N : Nat) (l0 : Nat) (h : zH) (r : Int32 × zH) (e : fM_readsRemove N l0 h = some r) : zt xs (4) 213 0 [(0, .ref l0)] [] h 0 0 (zQ cI r) := by
  have hy := mfM_readsRemove_m
  unfold fM_readsRemove at e
  replace e := (cond_some e).2
  exact zl hy 4 (pc2 := 4) (lv2 := [(0, .ref l0)]) (st2 := [.ref l0, .int (Int32.ofInt 0), .int (Int32.ofInt 0), .ref l0]) rfl <| zx_gR hy rfl e fun x1 _ e => zl hy 1 (pc2 := 8) (lv2 := [(0, .ref l0)]) (st2 := [.int (Int32.ofInt 2), .ref x1, .int (Int32.ofInt 0), .int (Int32.ofInt 0), .ref l0]) rfl <| zx_aI hy (j := .iaload) (Or.inl ⟨rfl, rfl⟩) rfl e fun x2 _ e => zl hy 2 (pc2 := 11) (lv2 := [(0, .ref l0)]) (st2 := [.int (x2 - (Int32.ofInt 1)), .int (Int32.ofInt 0), .int (Int32.ofInt 0), .ref l0]) rfl <| zx_call hy (as := [.ref l0, .int (Int32.ofInt 0), .int (Int32.ofInt 0), .int (x2 - (Int32.ofInt 1))]) (rest := []) (ov := (fun v => some (.int v))) (fun _ => rfl) rfl rfl (Or.inl rfl) rfl rfl (Nat.le_of_ble_eq_true rfl) (Nat.le_of_ble_eq_true rfl) (fun _ e _ => z_rcvT (rfM_number N l0 (Int32.ofInt 0) (Int32.ofInt 0) (x2 - (Int32.ofInt 1)) h _ e)) (fun _ e => zt_deep (Nat.le_of_ble_eq_true rfl) (sfM_number N l0 (Int32.ofInt 0) (Int32.ofInt 0) (x2 - (Int32.ofInt 1)) h _ e)) e fun x3 h4 _ e => zx_c0 hy rfl e (fun _ e => zt_sub (z_fn) <| sfM_readsRemove_25 N    h4 _ e) (fun _ e => zl hy 2 (pc2 := 19) (lv2 := [(0, .ref l0)]) (st2 := [.int (Int32.ofInt 1), .ref l0]) rfl <| zx_call hy (as := [.ref l0, .int (Int32.ofInt 1)]) (rest := []) (ov := (fun v => some (.int v))) (fun _ => rfl) rfl rfl (Or.inl rfl) rfl rfl (Nat.le_of_ble_eq_true rfl) (Nat.le_of_ble_eq_true rfl) (fun _ e _ => z_rcvT (rfM_stops N l0 (Int32.ofInt 1) h4 _ e)) (fun _ e => zt_deep (Nat.le_of_ble_eq_true rfl) (sfM_stops N l0 (Int32.ofInt 1) h4 _ e)) e fun x5 h6 _ e => zx_c0 hy rfl e (fun _ e => zl hy 2 (pc2 := 29) (lv2 := [(0, .ref l0)]) (st2 := [.ref l0, .ref l0]) rfl <| zx_gR hy rfl e fun x7 _ e => zl hy 1 (pc2 := 33) (lv2 := [(0, .ref l0)]) (st2 := [.int (Int32.ofInt 0), .ref x7, .ref l0]) rfl <| zx_aI hy (j := .iaload) (Or.inl ⟨rfl, rfl⟩) rfl e fun x8 _ e => zx_call hy (as := [.ref l0, .int x8]) (rest := []) (ov := (fun v => some (.int v))) (fun _ => rfl) rfl rfl (Or.inl rfl) rfl rfl (Nat.le_of_ble_eq_true rfl) (Nat.le_of_ble_eq_true rfl) (fun _ e _ => z_rcvT (rfM_removes N l0 x8 h6 _ e)) (fun _ e => zt_deep (Nat.le_of_ble_eq_true rfl) (sfM_removes N l0 x8 h6 _ e)) e fun x9 h10 _ e => zl hy 2 (pc2 := 39) (lv2 := [(0, .ref l0)]) (st2 := [.int (Int32.ofInt 1)]) rfl <| zx_ret hy (v := .int (Int32.ofInt 1)) rfl rfl (by decide) rfl e) (fun _ e => zt_sub (z_fn) <| sfM_readsRemove_25 N    h6 _ e))
theorem rfM_readsRemove (N : Nat) (l0 : Nat) (h : zH) (r : Int32 × zH) (e : fM_readsRemove N l0 h = some r) : fT h l0 5 = true := by
  unfold fM_readsRemove at e
  exact (cond_some e).1
/-- LyndonBenchModel.readsJoin()Z -/
theorem mfM_readsJoin : z_me 214 zc_214 1 [] (some .boolean) := ⟨z_me0 rfl, rfl, rfl, rfl⟩
def fM_readsJoin (N : Nat) (l0 : Nat) (h : zH) : Option (Int32 × zH) := cond (fT h l0 5) (b2 (fM_canJoin N l0 h) fun x1 h2 => b2 (fM_stops N l0 x1 h2) fun x3 h4 => cond (z_cmp .ne x3 (Int32.ofInt 0)) (b2 (fM_joins N l0 h4) fun x5 h6 => some ((Int32.ofInt 1), h6)) (some ((Int32.ofInt 0), h4))) none
theorem sfM_readsJoin {xs : List Int32} (N : Nat) (l0 : Nat) (h : zH) (r : Int32 × zH) (e : fM_readsJoin N l0 h = some r) : zt xs (5) 214 0 [(0, .ref l0)] [] h 0 0 (zQ cI r) := by
  have hy := mfM_readsJoin
  unfold fM_readsJoin at e
  replace e := (cond_some e).2
  exact zl hy 2 (pc2 := 2) (lv2 := [(0, .ref l0)]) (st2 := [.ref l0, .ref l0]) rfl <| zx_call hy (as := [.ref l0]) (rest := [.ref l0]) (ov := (fun v => some (.int v))) (fun _ => rfl) rfl rfl (Or.inl rfl) rfl rfl (Nat.le_of_ble_eq_true rfl) (Nat.le_of_ble_eq_true rfl) (fun _ e _ => z_rcvT (rfM_canJoin N l0 h _ e)) (fun _ e => zt_deep (Nat.le_of_ble_eq_true rfl) (sfM_canJoin N l0 h _ e)) e fun x1 h2 _ e => zx_call hy (as := [.ref l0, .int x1]) (rest := []) (ov := (fun v => some (.int v))) (fun _ => rfl) rfl rfl (Or.inl rfl) rfl rfl (Nat.le_of_ble_eq_true rfl) (Nat.le_of_ble_eq_true rfl) (fun _ e _ => z_rcvT (rfM_stops N l0 x1 h2 _ e)) (fun _ e => zt_deep (Nat.le_of_ble_eq_true rfl) (sfM_stops N l0 x1 h2 _ e)) e fun x3 h4 _ e => zx_c0 hy rfl e (fun _ e => zl hy 1 (pc2 := 14) (lv2 := [(0, .ref l0)]) (st2 := [.ref l0]) rfl <| zx_call hy (as := [.ref l0]) (rest := []) (ov := (fun v => some (.int v))) (fun _ => rfl) rfl rfl (Or.inl rfl) rfl rfl (Nat.le_of_ble_eq_true rfl) (Nat.le_of_ble_eq_true rfl) (fun _ e _ => z_rcvT (rfM_joins N l0 h4 _ e)) (fun _ e => zt_deep (Nat.le_of_ble_eq_true rfl) (sfM_joins N l0 h4 _ e)) e fun x5 h6 _ e => zl hy 2 (pc2 := 19) (lv2 := [(0, .ref l0)]) (st2 := [.int (Int32.ofInt 1)]) rfl <| zx_ret hy (v := .int (Int32.ofInt 1)) rfl rfl (by decide) rfl e) (fun _ e => zl hy 1 (pc2 := 12) (lv2 := [(0, .ref l0)]) (st2 := [.int (Int32.ofInt 0)]) rfl <| zx_ret hy (v := .int (Int32.ofInt 0)) rfl rfl (by decide) rfl e)
theorem rfM_readsJoin (N : Nat) (l0 : Nat) (h : zH) (r : Int32 × zH) (e : fM_readsJoin N l0 h = some r) : fT h l0 5 = true := by
  unfold fM_readsJoin at e
  exact (cond_some e).1
/-- LyndonBenchModel.readsRepeat(I)Z -/
theorem mfM_readsRepeat : z_me 215 zc_215 5 [] (some .boolean) := ⟨z_me0 rfl, rfl, rfl, rfl⟩
def fM_readsRepeat_19 (N : Nat) (rc : Nat → Int32 → zH → Option (Int32 × zH))   (h : zH) : Option (Int32 × zH) := some ((Int32.ofInt 0), h)
theorem sfM_readsRepeat_19 {xs : List Int32} (N : Nat) (rc : Nat → Int32 → zH → Option (Int32 × zH)) {D : Nat} (hrc : ∀ (l0 : Nat) (l1 : Int32) (h : zH) (r : Int32 × zH), rc l0 l1 h = some r → zt xs D 218 0 [(0, .ref l0), (1, .int l1)] [] h 0 0 (zQ cI r)) (hrf : ∀ (l0 : Nat) (l1 : Int32) (h : zH) (r : Int32 × zH), rc l0 l1 h = some r → fT h l0 5 = true)    (h : zH) (r : Int32 × zH) (e : fM_readsRepeat_19 N rc   h = some r) : zt xs (D + 4) 215 19 [] [] h 0 0 (zQ cI r) := by
  have hy := mfM_readsRepeat
  unfold fM_readsRepeat_19 at e
  exact zl hy 1 (pc2 := 20) (lv2 := []) (st2 := [.int (Int32.ofInt 0)]) rfl <| zx_ret hy (v := .int (Int32.ofInt 0)) rfl rfl (by decide) rfl e
def fM_readsRepeat_51 (N : Nat) (rc : Nat → Int32 → zH → Option (Int32 × zH)) : Nat → (Nat → Int32 → Int32 → Int32 → Int32 → zH → Option (Int32 × zH)) → Nat → Int32 → Int32 → Int32 → Int32 → zH → Option (Int32 × zH)
  | 0, _, _, _, _, _, _, _ => none
  | n + 1, k36, l0, l1, l2, l3, l4, h => b1 (fI h l0 5 18) fun x15 => cond (z_cmp .eq x15 (Int32.ofInt 5)) (k36 l0 l1 l2 l3 (l4 + Int32.ofInt 1) h) (b2 (rc l0 (l1 + (Int32.ofInt 1)) h) fun x16 h17 => cond (z_cmp .ne x16 (Int32.ofInt 0)) (b2 (fM_next N l0 h17) fun _ h19 => fM_readsRepeat_51 N rc n k36 l0 l1 l2 l3 l4 h19) (some ((Int32.ofInt 0), h17)))
theorem sfM_readsRepeat_51 {xs : List Int32} (N : Nat) (rc : Nat → Int32 → zH → Option (Int32 × zH)) {D : Nat} (hrc : ∀ (l0 : Nat) (l1 : Int32) (h : zH) (r : Int32 × zH), rc l0 l1 h = some r → zt xs D 218 0 [(0, .ref l0), (1, .int l1)] [] h 0 0 (zQ cI r)) (hrf : ∀ (l0 : Nat) (l1 : Int32) (h : zH) (r : Int32 × zH), rc l0 l1 h = some r → fT h l0 5 = true) (k36 : Nat → Int32 → Int32 → Int32 → Int32 → zH → Option (Int32 × zH))  (hk36 : ∀ (l0 : Nat) (l1 : Int32) (l2 : Int32) (l3 : Int32) (l4 : Int32) (h : zH) (r : Int32 × zH), k36 l0 l1 l2 l3 l4 h = some r → zt xs (D + 4) 215 36 [(0, .ref l0), (1, .int l1), (2, .int l2), (3, .int l3), (4, .int l4)] [] h 0 0 (zQ cI r)) : ∀ (n : Nat) (l0 : Nat) (l1 : Int32) (l2 : Int32) (l3 : Int32) (l4 : Int32) (h : zH) (r : Int32 × zH), fM_readsRepeat_51 N rc n k36 l0 l1 l2 l3 l4 h = some r → zt xs (D + 4) 215 51 [(0, .ref l0), (1, .int l1), (2, .int l2), (3, .int l3), (4, .int l4)] [] h 0 0 (zQ cI r) := by
  have hy := mfM_readsRepeat
  intro n
  induction n with
  | zero =>
    intro l0 l1 l2 l3 l4 h r e
    rw [fM_readsRepeat_51] at e
    cases e
  | succ n ih =>
    intro l0 l1 l2 l3 l4 h r e
    rw [fM_readsRepeat_51] at e
    exact zl hy 1 (pc2 := 52) (lv2 := [(0, .ref l0), (1, .int l1), (2, .int l2), (3, .int l3), (4, .int l4)]) (st2 := [.ref l0]) rfl <| zx_gI hy rfl e fun x15 _ e => zl hy 1 (pc2 := 56) (lv2 := [(0, .ref l0), (1, .int l1), (2, .int l2), (3, .int l3), (4, .int l4)]) (st2 := [.int (Int32.ofInt 5), .int x15]) rfl <| zx_c hy rfl e (fun _ e => zl hy 2 (pc2 := 36) (lv2 := [(4, .int (l4 + Int32.ofInt 1)), (0, .ref l0), (1, .int l1), (2, .int l2), (3, .int l3)]) (st2 := []) rfl <| zt_sub (z_fc rfl (z_fc rfl (z_fc rfl (z_fc rfl (z_fc rfl (z_fn)))))) <| hk36 l0 l1 l2 l3 (l4 + Int32.ofInt 1) h _ e) (fun _ e => zl hy 4 (pc2 := 63) (lv2 := [(0, .ref l0), (1, .int l1), (2, .int l2), (3, .int l3), (4, .int l4)]) (st2 := [.int (l1 + (Int32.ofInt 1)), .ref l0]) rfl <| zx_call hy (as := [.ref l0, .int (l1 + (Int32.ofInt 1))]) (rest := []) (ov := (fun v => some (.int v))) (fun _ => rfl) rfl rfl (Or.inl rfl) rfl rfl (Nat.le_of_ble_eq_true rfl) (Nat.le_of_ble_eq_true rfl) (fun _ e _ => z_rcvT (hrf l0 (l1 + (Int32.ofInt 1)) h _ e)) (fun _ e => zt_deep (Nat.le_add_right _ _) (hrc l0 (l1 + (Int32.ofInt 1)) h _ e)) e fun x16 h17 _ e => zx_c0 hy rfl e (fun _ e => zl hy 1 (pc2 := 72) (lv2 := [(0, .ref l0), (1, .int l1), (2, .int l2), (3, .int l3), (4, .int l4)]) (st2 := [.ref l0]) rfl <| zx_call hy (as := [.ref l0]) (rest := []) (ov := (fun _ => none)) (fun _ => rfl) rfl rfl (Or.inl rfl) rfl rfl (Nat.le_of_ble_eq_true rfl) (Nat.le_of_ble_eq_true rfl) (fun _ e _ => z_rcvT (rfM_next N l0 h17 _ e)) (fun _ e => zt_deep (Nat.le_trans (m := 3) (Nat.le_of_ble_eq_true rfl) (Nat.le_add_left _ _)) (sfM_next N l0 h17 _ e)) e fun _ h19 _ e => zl hy 1 (pc2 := 51) (lv2 := [(0, .ref l0), (1, .int l1), (2, .int l2), (3, .int l3), (4, .int l4)]) (st2 := []) rfl <| zt_sub (z_fc rfl (z_fc rfl (z_fc rfl (z_fc rfl (z_fc rfl (z_fn)))))) <| ih l0 l1 l2 l3 l4 h19 _ e) (fun _ e => zl hy 1 (pc2 := 70) (lv2 := [(0, .ref l0), (1, .int l1), (2, .int l2), (3, .int l3), (4, .int l4)]) (st2 := [.int (Int32.ofInt 0)]) rfl <| zx_ret hy (v := .int (Int32.ofInt 0)) rfl rfl (by decide) rfl e))
def fM_readsRepeat_36 (N : Nat) (rc : Nat → Int32 → zH → Option (Int32 × zH)) : Nat → Nat → Int32 → Int32 → Int32 → Int32 → zH → Option (Int32 × zH)
  | 0, _, _, _, _, _, _ => none
  | n + 1, l0, l1, l2, l3, l4, h => cond (z_cmp .ge l4 l2) (b2 (fM_next N l0 h) fun _ h9 => b2 (fM_is N l0 (Int32.ofInt 1) h9) fun x10 h11 => cond (decide (x10 = Int32.ofInt 0) || decide (x10 = Int32.ofInt 1)) (some (x10, h11)) none) (b1 (fS h l0 5 20 (.int l3)) fun h12 => b2 (fM_next N l0 h12) fun _ h14 => fM_readsRepeat_51 N rc N (fM_readsRepeat_36 N rc n ) l0 l1 l2 l3 l4 h14)
theorem sfM_readsRepeat_36 {xs : List Int32} (N : Nat) (rc : Nat → Int32 → zH → Option (Int32 × zH)) {D : Nat} (hrc : ∀ (l0 : Nat) (l1 : Int32) (h : zH) (r : Int32 × zH), rc l0 l1 h = some r → zt xs D 218 0 [(0, .ref l0), (1, .int l1)] [] h 0 0 (zQ cI r)) (hrf : ∀ (l0 : Nat) (l1 : Int32) (h : zH) (r : Int32 × zH), rc l0 l1 h = some r → fT h l0 5 = true)   : ∀ (n : Nat) (l0 : Nat) (l1 : Int32) (l2 : Int32) (l3 : Int32) (l4 : Int32) (h : zH) (r : Int32 × zH), fM_readsRepeat_36 N rc n  l0 l1 l2 l3 l4 h = some r → zt xs (D + 4) 215 36 [(0, .ref l0), (1, .int l1), (2, .int l2), (3, .int l3), (4, .int l4)] [] h 0 0 (zQ cI r) := by
  have hy := mfM_readsRepeat
  intro n
  induction n with
  | zero =>
    intro l0 l1 l2 l3 l4 h r e
    rw [fM_readsRepeat_36] at e
    cases e
  | succ n ih =>
    intro l0 l1 l2 l3 l4 h r e
    rw [fM_readsRepeat_36] at e
    exact zl hy 2 (pc2 := 39) (lv2 := [(0, .ref l0), (1, .int l1), (2, .int l2), (3, .int l3), (4, .int l4)]) (st2 := [.int l2, .int l4]) rfl <| zx_c hy rfl e (fun _ e => zl hy 1 (pc2 := 85) (lv2 := [(0, .ref l0), (1, .int l1), (2, .int l2), (3, .int l3), (4, .int l4)]) (st2 := [.ref l0]) rfl <| zx_call hy (as := [.ref l0]) (rest := []) (ov := (fun _ => none)) (fun _ => rfl) rfl rfl (Or.inl rfl) rfl rfl (Nat.le_of_ble_eq_true rfl) (Nat.le_of_ble_eq_true rfl) (fun _ e _ => z_rcvT (rfM_next N l0 h _ e)) (fun _ e => zt_deep (Nat.le_trans (m := 3) (Nat.le_of_ble_eq_true rfl) (Nat.le_add_left _ _)) (sfM_next N l0 h _ e)) e fun _ h9 _ e => zl hy 2 (pc2 := 90) (lv2 := [(0, .ref l0), (1, .int l1), (2, .int l2), (3, .int l3), (4, .int l4)]) (st2 := [.int (Int32.ofInt 1), .ref l0]) rfl <| zx_call hy (as := [.ref l0, .int (Int32.ofInt 1)]) (rest := []) (ov := (fun v => some (.int v))) (fun _ => rfl) rfl rfl (Or.inl rfl) rfl rfl (Nat.le_of_ble_eq_true rfl) (Nat.le_of_ble_eq_true rfl) (fun _ e _ => z_rcvT (rfM_is N l0 (Int32.ofInt 1) h9 _ e)) (fun _ e => zt_deep (Nat.le_trans (m := 3) (Nat.le_of_ble_eq_true rfl) (Nat.le_add_left _ _)) (sfM_is N l0 (Int32.ofInt 1) h9 _ e)) e fun x10 h11 _ e => zx_retB hy rfl rfl e) (fun _ e => zl hy 2 (pc2 := 44) (lv2 := [(0, .ref l0), (1, .int l1), (2, .int l2), (3, .int l3), (4, .int l4)]) (st2 := [.int l3, .ref l0]) rfl <| zx_pf hy rfl e (rfl) fun h12 _ e => zl hy 1 (pc2 := 48) (lv2 := [(0, .ref l0), (1, .int l1), (2, .int l2), (3, .int l3), (4, .int l4)]) (st2 := [.ref l0]) rfl <| zx_call hy (as := [.ref l0]) (rest := []) (ov := (fun _ => none)) (fun _ => rfl) rfl rfl (Or.inl rfl) rfl rfl (Nat.le_of_ble_eq_true rfl) (Nat.le_of_ble_eq_true rfl) (fun _ e _ => z_rcvT (rfM_next N l0 h12 _ e)) (fun _ e => zt_deep (Nat.le_trans (m := 3) (Nat.le_of_ble_eq_true rfl) (Nat.le_add_left _ _)) (sfM_next N l0 h12 _ e)) e fun _ h14 _ e => zt_sub (z_fc rfl (z_fc rfl (z_fc rfl (z_fc rfl (z_fc rfl (z_fn)))))) <| sfM_readsRepeat_51 N rc hrc hrf (fM_readsRepeat_36 N rc n ) ih N l0 l1 l2 l3 l4 h14 _ e)
def fM_readsRepeat (N : Nat) (rc : Nat → Int32 → zH → Option (Int32 × zH)) (l0 : Nat) (l1 : Int32) (h : zH) : Option (Int32 × zH) := cond (fT h l0 5) (b2 (fM_number N l0 (Int32.ofInt 0) (Int32.ofInt 1) (Int32.ofInt 20) h) fun x1 h2 => cond (z_cmp .eq x1 (Int32.ofInt 0)) (fM_readsRepeat_19 N rc   h2) (b2 (fM_is N l0 (Int32.ofInt 4) h2) fun x3 h4 => cond (z_cmp .ne x3 (Int32.ofInt 0)) (b1 (fR h4 l0 5 23) fun x5 => b1 (fAI h4 x5 100 (Int32.ofInt 0)) fun x6 => b1 (fI h4 l0 5 20) fun x7 => fM_readsRepeat_36 N rc N  l0 l1 x6 x7 (Int32.ofInt 0) h4) (fM_readsRepeat_19 N rc   h4))) none
theorem sfM_readsRepeat {xs : List Int32} (N : Nat) (rc : Nat → Int32 → zH → Option (Int32 × zH)) {D : Nat} (hrc : ∀ (l0 : Nat) (l1 : Int32) (h : zH) (r : Int32 × zH), rc l0 l1 h = some r → zt xs D 218 0 [(0, .ref l0), (1, .int l1)] [] h 0 0 (zQ cI r)) (hrf : ∀ (l0 : Nat) (l1 : Int32) (h : zH) (r : Int32 × zH), rc l0 l1 h = some r → fT h l0 5 = true) (l0 : Nat) (l1 : Int32) (h : zH) (r : Int32 × zH) (e : fM_readsRepeat N rc l0 l1 h = some r) : zt xs (D + 4) 215 0 [(0, .ref l0), (1, .int l1)] [] h 0 0 (zQ cI r) := by
  have hy := mfM_readsRepeat
  unfold fM_readsRepeat at e
  replace e := (cond_some e).2
  exact zl hy 3 (pc2 := 3) (lv2 := [(0, .ref l0), (1, .int l1)]) (st2 := [.int (Int32.ofInt 1), .int (Int32.ofInt 0), .ref l0]) rfl <| zx_bip hy (c := 20) rfl (by decide) <| zx_call hy (as := [.ref l0, .int (Int32.ofInt 0), .int (Int32.ofInt 1), .int (Int32.ofInt 20)]) (rest := []) (ov := (fun v => some (.int v))) (fun _ => rfl) rfl rfl (Or.inl rfl) rfl rfl (Nat.le_of_ble_eq_true rfl) (Nat.le_of_ble_eq_true rfl) (fun _ e _ => z_rcvT (rfM_number N l0 (Int32.ofInt 0) (Int32.ofInt 1) (Int32.ofInt 20) h _ e)) (fun _ e => zt_deep (Nat.le_trans (m := 3) (Nat.le_of_ble_eq_true rfl) (Nat.le_add_left _ _)) (sfM_number N l0 (Int32.ofInt 0) (Int32.ofInt 1) (Int32.ofInt 20) h _ e)) e fun x1 h2 _ e => zx_c0 hy rfl e (fun _ e => zt_sub (z_fn) <| sfM_readsRepeat_19 N rc hrc hrf    h2 _ e) (fun _ e => zl hy 2 (pc2 := 13) (lv2 := [(0, .ref l0), (1, .int l1)]) (st2 := [.int (Int32.ofInt 4), .ref l0]) rfl <| zx_call hy (as := [.ref l0, .int (Int32.ofInt 4)]) (rest := []) (ov := (fun v => some (.int v))) (fun _ => rfl) rfl rfl (Or.inl rfl) rfl rfl (Nat.le_of_ble_eq_true rfl) (Nat.le_of_ble_eq_true rfl) (fun _ e _ => z_rcvT (rfM_is N l0 (Int32.ofInt 4) h2 _ e)) (fun _ e => zt_deep (Nat.le_trans (m := 3) (Nat.le_of_ble_eq_true rfl) (Nat.le_add_left _ _)) (sfM_is N l0 (Int32.ofInt 4) h2 _ e)) e fun x3 h4 _ e => zx_c0 hy rfl e (fun _ e => zl hy 1 (pc2 := 22) (lv2 := [(0, .ref l0), (1, .int l1)]) (st2 := [.ref l0]) rfl <| zx_gR hy rfl e fun x5 _ e => zl hy 1 (pc2 := 26) (lv2 := [(0, .ref l0), (1, .int l1)]) (st2 := [.int (Int32.ofInt 0), .ref x5]) rfl <| zx_aI hy (j := .iaload) (Or.inl ⟨rfl, rfl⟩) rfl e fun x6 _ e => zl hy 2 (pc2 := 29) (lv2 := [(2, .int x6), (0, .ref l0), (1, .int l1)]) (st2 := [.ref l0]) rfl <| zx_gI hy rfl e fun x7 _ e => zl hy 3 (pc2 := 36) (lv2 := [(4, .int (Int32.ofInt 0)), (3, .int x7), (2, .int x6), (0, .ref l0), (1, .int l1)]) (st2 := []) rfl <| zt_sub (z_fc rfl (z_fc rfl (z_fc rfl (z_fc rfl (z_fc rfl (z_fn)))))) <| sfM_readsRepeat_36 N rc hrc hrf   N l0 l1 x6 x7 (Int32.ofInt 0) h4 _ e) (fun _ e => zt_sub (z_fn) <| sfM_readsRepeat_19 N rc hrc hrf    h4 _ e))
theorem rfM_readsRepeat (N : Nat) (rc : Nat → Int32 → zH → Option (Int32 × zH)) (l0 : Nat) (l1 : Int32) (h : zH) (r : Int32 × zH) (e : fM_readsRepeat N rc l0 l1 h = some r) : fT h l0 5 = true := by
  unfold fM_readsRepeat at e
  exact (cond_some e).1
/-- LyndonBenchModel.laterWord()I -/
theorem mfM_laterWord : z_me 217 zc_217 1 [] (some .int) := ⟨z_me0 rfl, rfl, rfl, rfl⟩
abbrev zC_217_87 : List zE := [(87, .ireturn, 1, 0, 0)]
theorem mfM_laterWord_87 : z_me 217 zC_217_87 1 [] (some .int) := ⟨z_me1 (cd := zc_217) rfl (by decide +kernel), rfl, rfl, rfl⟩
abbrev zC_217_m : List zE := [(0, .aload_n 0, 1, 0, 0), (1, .ldc 250, 2, 1, 41), (3, .invokevirtual 233, 3, 198, 1), (6, .ifCond .eq 8, 3, 14, 0), (9, .bipush 6, 2, 0, 0), (11, .goto 76, 3, 87, 0), (14, .aload_n 0, 1, 0, 0), (15, .ldc 251, 2, 1, 42), (17, .invokevirtual 233, 3, 198, 1), (20, .ifCond .eq 8, 3, 28, 0), (23, .bipush 7, 2, 0, 0), (25, .goto 62, 3, 87, 0), (28, .aload_n 0, 1, 0, 0), (29, .ldc 252, 2, 1, 43), (31, .invokevirtual 233, 3, 198, 1), (34, .ifCond .eq 8, 3, 42, 0), (37, .bipush 8, 2, 0, 0), (39, .goto 48, 3, 87, 0), (42, .aload_n 0, 1, 0, 0), (43, .ldc 254, 2, 1, 44), (45, .invokevirtual 233, 3, 198, 1), (48, .ifCond .eq 8, 3, 56, 0), (51, .bipush 9, 2, 0, 0), (53, .goto 34, 3, 87, 0), (56, .aload_n 0, 1, 0, 0), (57, .ldc_w 256, 3, 1, 45), (60, .invokevirtual 233, 3, 198, 1), (63, .ifCond .eq 8, 3, 71, 0), (66, .bipush 10, 2, 0, 0), (68, .goto 19, 3, 87, 0), (71, .aload_n 0, 1, 0, 0), (72, .ldc_w 258, 3, 1, 46), (75, .invokevirtual 233, 3, 198, 1), (78, .ifCond .eq 8, 3, 86, 0), (81, .bipush 11, 2, 0, 0), (83, .goto 4, 3, 87, 0), (86, .iconst (-1), 1, 0, 0)]
theorem mfM_laterWord_m : z_me 217 zC_217_m 1 [] (some .int) := ⟨z_me1 (cd := zc_217) rfl (by decide +kernel), rfl, rfl, rfl⟩
def fM_laterWord_87 (N : Nat)  (s0 : Int32) (h : zH) : Option (Int32 × zH) := some (s0, h)
theorem sfM_laterWord_87 {xs : List Int32} (N : Nat)   (s0 : Int32) (h : zH) (r : Int32 × zH) (e : fM_laterWord_87 N  s0 h = some r) : zt xs (6) 217 87 [] [.int s0] h 0 0 (zQ cI r) := by
  have hy := mfM_laterWord_87
  unfold fM_laterWord_87 at e
  exact zx_ret hy rfl rfl rfl rfl e
def fM_laterWord (N : Nat) (l0 : Nat) (h : zH) : Option (Int32 × zH) := cond (fT h l0 5) (b2 (fM_says N l0 1000061 h) fun x1 h2 => cond (z_cmp .eq x1 (Int32.ofInt 0)) (b2 (fM_says N l0 1000063 h2) fun x3 h4 => cond (z_cmp .eq x3 (Int32.ofInt 0)) (b2 (fM_says N l0 1000065 h4) fun x5 h6 => cond (z_cmp .eq x5 (Int32.ofInt 0)) (b2 (fM_says N l0 1000067 h6) fun x7 h8 => cond (z_cmp .eq x7 (Int32.ofInt 0)) (b2 (fM_says N l0 1000069 h8) fun x9 h10 => cond (z_cmp .eq x9 (Int32.ofInt 0)) (b2 (fM_says N l0 1000071 h10) fun x11 h12 => cond (z_cmp .eq x11 (Int32.ofInt 0)) (fM_laterWord_87 N  (Int32.ofInt (-1)) h12) (fM_laterWord_87 N  (Int32.ofInt 11) h12)) (fM_laterWord_87 N  (Int32.ofInt 10) h10)) (fM_laterWord_87 N  (Int32.ofInt 9) h8)) (fM_laterWord_87 N  (Int32.ofInt 8) h6)) (fM_laterWord_87 N  (Int32.ofInt 7) h4)) (fM_laterWord_87 N  (Int32.ofInt 6) h2)) none
theorem sfM_laterWord {xs : List Int32} (N : Nat) (l0 : Nat) (h : zH) (r : Int32 × zH) (e : fM_laterWord N l0 h = some r) : zt xs (6) 217 0 [(0, .ref l0)] [] h 0 0 (zQ cI r) := by
  have hy := mfM_laterWord_m
  unfold fM_laterWord at e
  replace e := (cond_some e).2
  exact zl hy 1 (pc2 := 1) (lv2 := [(0, .ref l0)]) (st2 := [.ref l0]) rfl <| zx_ldcS hy (q := 1000061) rfl rfl rfl <| zx_call hy (as := [.ref l0, .ref 1000061]) (rest := []) (ov := (fun v => some (.int v))) (fun _ => rfl) rfl rfl (Or.inl rfl) rfl rfl (Nat.le_of_ble_eq_true rfl) (Nat.le_of_ble_eq_true rfl) (fun _ e _ => z_rcvT (rfM_says N l0 1000061 h _ e)) (fun _ e => zt_deep (Nat.le_of_ble_eq_true rfl) (sfM_says N l0 1000061 h _ e)) e fun x1 h2 _ e => zx_c0 hy rfl e (fun _ e => zl hy 1 (pc2 := 15) (lv2 := [(0, .ref l0)]) (st2 := [.ref l0]) rfl <| zx_ldcS hy (q := 1000063) rfl rfl rfl <| zx_call hy (as := [.ref l0, .ref 1000063]) (rest := []) (ov := (fun v => some (.int v))) (fun _ => rfl) rfl rfl (Or.inl rfl) rfl rfl (Nat.le_of_ble_eq_true rfl) (Nat.le_of_ble_eq_true rfl) (fun _ e _ => z_rcvT (rfM_says N l0 1000063 h2 _ e)) (fun _ e => zt_deep (Nat.le_of_ble_eq_true rfl) (sfM_says N l0 1000063 h2 _ e)) e fun x3 h4 _ e => zx_c0 hy rfl e (fun _ e => zl hy 1 (pc2 := 29) (lv2 := [(0, .ref l0)]) (st2 := [.ref l0]) rfl <| zx_ldcS hy (q := 1000065) rfl rfl rfl <| zx_call hy (as := [.ref l0, .ref 1000065]) (rest := []) (ov := (fun v => some (.int v))) (fun _ => rfl) rfl rfl (Or.inl rfl) rfl rfl (Nat.le_of_ble_eq_true rfl) (Nat.le_of_ble_eq_true rfl) (fun _ e _ => z_rcvT (rfM_says N l0 1000065 h4 _ e)) (fun _ e => zt_deep (Nat.le_of_ble_eq_true rfl) (sfM_says N l0 1000065 h4 _ e)) e fun x5 h6 _ e => zx_c0 hy rfl e (fun _ e => zl hy 1 (pc2 := 43) (lv2 := [(0, .ref l0)]) (st2 := [.ref l0]) rfl <| zx_ldcS hy (q := 1000067) rfl rfl rfl <| zx_call hy (as := [.ref l0, .ref 1000067]) (rest := []) (ov := (fun v => some (.int v))) (fun _ => rfl) rfl rfl (Or.inl rfl) rfl rfl (Nat.le_of_ble_eq_true rfl) (Nat.le_of_ble_eq_true rfl) (fun _ e _ => z_rcvT (rfM_says N l0 1000067 h6 _ e)) (fun _ e => zt_deep (Nat.le_of_ble_eq_true rfl) (sfM_says N l0 1000067 h6 _ e)) e fun x7 h8 _ e => zx_c0 hy rfl e (fun _ e => zl hy 1 (pc2 := 57) (lv2 := [(0, .ref l0)]) (st2 := [.ref l0]) rfl <| zx_ldcw hy (q := 1000069) rfl rfl rfl <| zx_call hy (as := [.ref l0, .ref 1000069]) (rest := []) (ov := (fun v => some (.int v))) (fun _ => rfl) rfl rfl (Or.inl rfl) rfl rfl (Nat.le_of_ble_eq_true rfl) (Nat.le_of_ble_eq_true rfl) (fun _ e _ => z_rcvT (rfM_says N l0 1000069 h8 _ e)) (fun _ e => zt_deep (Nat.le_of_ble_eq_true rfl) (sfM_says N l0 1000069 h8 _ e)) e fun x9 h10 _ e => zx_c0 hy rfl e (fun _ e => zl hy 1 (pc2 := 72) (lv2 := [(0, .ref l0)]) (st2 := [.ref l0]) rfl <| zx_ldcw hy (q := 1000071) rfl rfl rfl <| zx_call hy (as := [.ref l0, .ref 1000071]) (rest := []) (ov := (fun v => some (.int v))) (fun _ => rfl) rfl rfl (Or.inl rfl) rfl rfl (Nat.le_of_ble_eq_true rfl) (Nat.le_of_ble_eq_true rfl) (fun _ e _ => z_rcvT (rfM_says N l0 1000071 h10 _ e)) (fun _ e => zt_deep (Nat.le_of_ble_eq_true rfl) (sfM_says N l0 1000071 h10 _ e)) e fun x11 h12 _ e => zx_c0 hy rfl e (fun _ e => zl hy 1 (pc2 := 87) (lv2 := [(0, .ref l0)]) (st2 := [.int (Int32.ofInt (-1))]) rfl <| zt_sub (z_fn) <| sfM_laterWord_87 N   (Int32.ofInt (-1)) h12 _ e) (fun _ e => zx_bip hy (c := 11) rfl (by decide) <| zl hy 1 (pc2 := 87) (lv2 := [(0, .ref l0)]) (st2 := [.int (Int32.ofInt 11)]) rfl <| zt_sub (z_fn) <| sfM_laterWord_87 N   (Int32.ofInt 11) h12 _ e)) (fun _ e => zx_bip hy (c := 10) rfl (by decide) <| zl hy 1 (pc2 := 87) (lv2 := [(0, .ref l0)]) (st2 := [.int (Int32.ofInt 10)]) rfl <| zt_sub (z_fn) <| sfM_laterWord_87 N   (Int32.ofInt 10) h10 _ e)) (fun _ e => zx_bip hy (c := 9) rfl (by decide) <| zl hy 1 (pc2 := 87) (lv2 := [(0, .ref l0)]) (st2 := [.int (Int32.ofInt 9)]) rfl <| zt_sub (z_fn) <| sfM_laterWord_87 N   (Int32.ofInt 9) h8 _ e)) (fun _ e => zx_bip hy (c := 8) rfl (by decide) <| zl hy 1 (pc2 := 87) (lv2 := [(0, .ref l0)]) (st2 := [.int (Int32.ofInt 8)]) rfl <| zt_sub (z_fn) <| sfM_laterWord_87 N   (Int32.ofInt 8) h6 _ e)) (fun _ e => zx_bip hy (c := 7) rfl (by decide) <| zl hy 1 (pc2 := 87) (lv2 := [(0, .ref l0)]) (st2 := [.int (Int32.ofInt 7)]) rfl <| zt_sub (z_fn) <| sfM_laterWord_87 N   (Int32.ofInt 7) h4 _ e)) (fun _ e => zx_bip hy (c := 6) rfl (by decide) <| zl hy 1 (pc2 := 87) (lv2 := [(0, .ref l0)]) (st2 := [.int (Int32.ofInt 6)]) rfl <| zt_sub (z_fn) <| sfM_laterWord_87 N   (Int32.ofInt 6) h2 _ e)
theorem rfM_laterWord (N : Nat) (l0 : Nat) (h : zH) (r : Int32 × zH) (e : fM_laterWord N l0 h = some r) : fT h l0 5 = true := by
  unfold fM_laterWord at e
  exact (cond_some e).1
/-- LyndonBenchModel.wordAhead()I -/
theorem mfM_wordAhead : z_me 216 zc_216 1 [] (some .int) := ⟨z_me0 rfl, rfl, rfl, rfl⟩
abbrev zC_216_82 : List zE := [(82, .ireturn, 1, 0, 0)]
theorem mfM_wordAhead_82 : z_me 216 zC_216_82 1 [] (some .int) := ⟨z_me1 (cd := zc_216) rfl (by decide +kernel), rfl, rfl, rfl⟩
abbrev zC_216_m : List zE := [(0, .aload_n 0, 1, 0, 0), (1, .ldc 232, 2, 1, 35), (3, .invokevirtual 233, 3, 198, 1), (6, .ifCond .eq 7, 3, 13, 0), (9, .iconst 0, 1, 0, 0), (10, .goto 72, 3, 82, 0), (13, .aload_n 0, 1, 0, 0), (14, .ldc 237, 2, 1, 36), (16, .invokevirtual 233, 3, 198, 1), (19, .ifCond .eq 7, 3, 26, 0), (22, .iconst 1, 1, 0, 0), (23, .goto 59, 3, 82, 0), (26, .aload_n 0, 1, 0, 0), (27, .ldc 239, 2, 1, 37), (29, .invokevirtual 233, 3, 198, 1), (32, .ifCond .eq 7, 3, 39, 0), (35, .iconst 2, 1, 0, 0), (36, .goto 46, 3, 82, 0), (39, .aload_n 0, 1, 0, 0), (40, .ldc 241, 2, 1, 38), (42, .invokevirtual 233, 3, 198, 1), (45, .ifCond .eq 7, 3, 52, 0), (48, .iconst 3, 1, 0, 0), (49, .goto 33, 3, 82, 0), (52, .aload_n 0, 1, 0, 0), (53, .ldc 243, 2, 1, 39), (55, .invokevirtual 233, 3, 198, 1), (58, .ifCond .eq 7, 3, 65, 0), (61, .iconst 4, 1, 0, 0), (62, .goto 20, 3, 82, 0), (65, .aload_n 0, 1, 0, 0), (66, .ldc 245, 2, 1, 40), (68, .invokevirtual 233, 3, 198, 1), (71, .ifCond .eq 7, 3, 78, 0), (74, .iconst 5, 1, 0, 0), (75, .goto 7, 3, 82, 0), (78, .aload_n 0, 1, 0, 0), (79, .invokevirtual 247, 3, 217, 0)]
theorem mfM_wordAhead_m : z_me 216 zC_216_m 1 [] (some .int) := ⟨z_me1 (cd := zc_216) rfl (by decide +kernel), rfl, rfl, rfl⟩
def fM_wordAhead_82 (N : Nat)  (s0 : Int32) (h : zH) : Option (Int32 × zH) := some (s0, h)
theorem sfM_wordAhead_82 {xs : List Int32} (N : Nat)   (s0 : Int32) (h : zH) (r : Int32 × zH) (e : fM_wordAhead_82 N  s0 h = some r) : zt xs (7) 216 82 [] [.int s0] h 0 0 (zQ cI r) := by
  have hy := mfM_wordAhead_82
  unfold fM_wordAhead_82 at e
  exact zx_ret hy rfl rfl rfl rfl e
def fM_wordAhead (N : Nat) (l0 : Nat) (h : zH) : Option (Int32 × zH) := cond (fT h l0 5) (b2 (fM_says N l0 1000049 h) fun x1 h2 => cond (z_cmp .eq x1 (Int32.ofInt 0)) (b2 (fM_says N l0 1000051 h2) fun x3 h4 => cond (z_cmp .eq x3 (Int32.ofInt 0)) (b2 (fM_says N l0 1000053 h4) fun x5 h6 => cond (z_cmp .eq x5 (Int32.ofInt 0)) (b2 (fM_says N l0 1000055 h6) fun x7 h8 => cond (z_cmp .eq x7 (Int32.ofInt 0)) (b2 (fM_says N l0 1000057 h8) fun x9 h10 => cond (z_cmp .eq x9 (Int32.ofInt 0)) (b2 (fM_says N l0 1000059 h10) fun x11 h12 => cond (z_cmp .eq x11 (Int32.ofInt 0)) (b2 (fM_laterWord N l0 h12) fun x13 h14 => fM_wordAhead_82 N  x13 h14) (fM_wordAhead_82 N  (Int32.ofInt 5) h12)) (fM_wordAhead_82 N  (Int32.ofInt 4) h10)) (fM_wordAhead_82 N  (Int32.ofInt 3) h8)) (fM_wordAhead_82 N  (Int32.ofInt 2) h6)) (fM_wordAhead_82 N  (Int32.ofInt 1) h4)) (fM_wordAhead_82 N  (Int32.ofInt 0) h2)) none
theorem sfM_wordAhead {xs : List Int32} (N : Nat) (l0 : Nat) (h : zH) (r : Int32 × zH) (e : fM_wordAhead N l0 h = some r) : zt xs (7) 216 0 [(0, .ref l0)] [] h 0 0 (zQ cI r) := by
  have hy := mfM_wordAhead_m
  unfold fM_wordAhead at e
  replace e := (cond_some e).2
  exact zl hy 1 (pc2 := 1) (lv2 := [(0, .ref l0)]) (st2 := [.ref l0]) rfl <| zx_ldcS hy (q := 1000049) rfl rfl rfl <| zx_call hy (as := [.ref l0, .ref 1000049]) (rest := []) (ov := (fun v => some (.int v))) (fun _ => rfl) rfl rfl (Or.inl rfl) rfl rfl (Nat.le_of_ble_eq_true rfl) (Nat.le_of_ble_eq_true rfl) (fun _ e _ => z_rcvT (rfM_says N l0 1000049 h _ e)) (fun _ e => zt_deep (Nat.le_of_ble_eq_true rfl) (sfM_says N l0 1000049 h _ e)) e fun x1 h2 _ e => zx_c0 hy rfl e (fun _ e => zl hy 1 (pc2 := 14) (lv2 := [(0, .ref l0)]) (st2 := [.ref l0]) rfl <| zx_ldcS hy (q := 1000051) rfl rfl rfl <| zx_call hy (as := [.ref l0, .ref 1000051]) (rest := []) (ov := (fun v => some (.int v))) (fun _ => rfl) rfl rfl (Or.inl rfl) rfl rfl (Nat.le_of_ble_eq_true rfl) (Nat.le_of_ble_eq_true rfl) (fun _ e _ => z_rcvT (rfM_says N l0 1000051 h2 _ e)) (fun _ e => zt_deep (Nat.le_of_ble_eq_true rfl) (sfM_says N l0 1000051 h2 _ e)) e fun x3 h4 _ e => zx_c0 hy rfl e (fun _ e => zl hy 1 (pc2 := 27) (lv2 := [(0, .ref l0)]) (st2 := [.ref l0]) rfl <| zx_ldcS hy (q := 1000053) rfl rfl rfl <| zx_call hy (as := [.ref l0, .ref 1000053]) (rest := []) (ov := (fun v => some (.int v))) (fun _ => rfl) rfl rfl (Or.inl rfl) rfl rfl (Nat.le_of_ble_eq_true rfl) (Nat.le_of_ble_eq_true rfl) (fun _ e _ => z_rcvT (rfM_says N l0 1000053 h4 _ e)) (fun _ e => zt_deep (Nat.le_of_ble_eq_true rfl) (sfM_says N l0 1000053 h4 _ e)) e fun x5 h6 _ e => zx_c0 hy rfl e (fun _ e => zl hy 1 (pc2 := 40) (lv2 := [(0, .ref l0)]) (st2 := [.ref l0]) rfl <| zx_ldcS hy (q := 1000055) rfl rfl rfl <| zx_call hy (as := [.ref l0, .ref 1000055]) (rest := []) (ov := (fun v => some (.int v))) (fun _ => rfl) rfl rfl (Or.inl rfl) rfl rfl (Nat.le_of_ble_eq_true rfl) (Nat.le_of_ble_eq_true rfl) (fun _ e _ => z_rcvT (rfM_says N l0 1000055 h6 _ e)) (fun _ e => zt_deep (Nat.le_of_ble_eq_true rfl) (sfM_says N l0 1000055 h6 _ e)) e fun x7 h8 _ e => zx_c0 hy rfl e (fun _ e => zl hy 1 (pc2 := 53) (lv2 := [(0, .ref l0)]) (st2 := [.ref l0]) rfl <| zx_ldcS hy (q := 1000057) rfl rfl rfl <| zx_call hy (as := [.ref l0, .ref 1000057]) (rest := []) (ov := (fun v => some (.int v))) (fun _ => rfl) rfl rfl (Or.inl rfl) rfl rfl (Nat.le_of_ble_eq_true rfl) (Nat.le_of_ble_eq_true rfl) (fun _ e _ => z_rcvT (rfM_says N l0 1000057 h8 _ e)) (fun _ e => zt_deep (Nat.le_of_ble_eq_true rfl) (sfM_says N l0 1000057 h8 _ e)) e fun x9 h10 _ e => zx_c0 hy rfl e (fun _ e => zl hy 1 (pc2 := 66) (lv2 := [(0, .ref l0)]) (st2 := [.ref l0]) rfl <| zx_ldcS hy (q := 1000059) rfl rfl rfl <| zx_call hy (as := [.ref l0, .ref 1000059]) (rest := []) (ov := (fun v => some (.int v))) (fun _ => rfl) rfl rfl (Or.inl rfl) rfl rfl (Nat.le_of_ble_eq_true rfl) (Nat.le_of_ble_eq_true rfl) (fun _ e _ => z_rcvT (rfM_says N l0 1000059 h10 _ e)) (fun _ e => zt_deep (Nat.le_of_ble_eq_true rfl) (sfM_says N l0 1000059 h10 _ e)) e fun x11 h12 _ e => zx_c0 hy rfl e (fun _ e => zl hy 1 (pc2 := 79) (lv2 := [(0, .ref l0)]) (st2 := [.ref l0]) rfl <| zx_call hy (as := [.ref l0]) (rest := []) (ov := (fun v => some (.int v))) (fun _ => rfl) rfl rfl (Or.inl rfl) rfl rfl (Nat.le_of_ble_eq_true rfl) (Nat.le_of_ble_eq_true rfl) (fun _ e _ => z_rcvT (rfM_laterWord N l0 h12 _ e)) (fun _ e => zt_deep (Nat.le_of_ble_eq_true rfl) (sfM_laterWord N l0 h12 _ e)) e fun x13 h14 _ e => zt_sub (z_fn) <| sfM_wordAhead_82 N   x13 h14 _ e) (fun _ e => zl hy 2 (pc2 := 82) (lv2 := [(0, .ref l0)]) (st2 := [.int (Int32.ofInt 5)]) rfl <| zt_sub (z_fn) <| sfM_wordAhead_82 N   (Int32.ofInt 5) h12 _ e)) (fun _ e => zl hy 2 (pc2 := 82) (lv2 := [(0, .ref l0)]) (st2 := [.int (Int32.ofInt 4)]) rfl <| zt_sub (z_fn) <| sfM_wordAhead_82 N   (Int32.ofInt 4) h10 _ e)) (fun _ e => zl hy 2 (pc2 := 82) (lv2 := [(0, .ref l0)]) (st2 := [.int (Int32.ofInt 3)]) rfl <| zt_sub (z_fn) <| sfM_wordAhead_82 N   (Int32.ofInt 3) h8 _ e)) (fun _ e => zl hy 2 (pc2 := 82) (lv2 := [(0, .ref l0)]) (st2 := [.int (Int32.ofInt 2)]) rfl <| zt_sub (z_fn) <| sfM_wordAhead_82 N   (Int32.ofInt 2) h6 _ e)) (fun _ e => zl hy 2 (pc2 := 82) (lv2 := [(0, .ref l0)]) (st2 := [.int (Int32.ofInt 1)]) rfl <| zt_sub (z_fn) <| sfM_wordAhead_82 N   (Int32.ofInt 1) h4 _ e)) (fun _ e => zl hy 2 (pc2 := 82) (lv2 := [(0, .ref l0)]) (st2 := [.int (Int32.ofInt 0)]) rfl <| zt_sub (z_fn) <| sfM_wordAhead_82 N   (Int32.ofInt 0) h2 _ e)
theorem rfM_wordAhead (N : Nat) (l0 : Nat) (h : zH) (r : Int32 × zH) (e : fM_wordAhead N l0 h = some r) : fT h l0 5 = true := by
  unfold fM_wordAhead at e
  exact (cond_some e).1
/-- LyndonBenchModel.readsWord(I)Z -/
theorem mfM_readsWord : z_me 219 zc_219 2 [] (some .boolean) := ⟨z_me0 rfl, rfl, rfl, rfl⟩
abbrev zC_219_m : List zE := [(0, .iload_n 1, 1, 0, 0), (1, .tableswitch 105 0 9 #[55, 60, 65, 70, 75, 80, 85, 90, 95, 100], 55, 0, 0), (56, .aload_n 0, 1, 0, 0), (57, .invokevirtual 272, 3, 204, 0), (60, .ireturn, 1, 0, 0), (61, .aload_n 0, 1, 0, 0), (62, .invokevirtual 275, 3, 205, 0), (65, .ireturn, 1, 0, 0), (66, .aload_n 0, 1, 0, 0), (67, .invokevirtual 278, 3, 206, 0), (70, .ireturn, 1, 0, 0), (71, .aload_n 0, 1, 0, 0), (72, .invokevirtual 281, 3, 207, 0), (75, .ireturn, 1, 0, 0), (76, .aload_n 0, 1, 0, 0), (77, .invokevirtual 284, 3, 208, 0), (80, .ireturn, 1, 0, 0), (81, .aload_n 0, 1, 0, 0), (82, .invokevirtual 287, 3, 209, 0), (85, .ireturn, 1, 0, 0), (86, .aload_n 0, 1, 0, 0), (87, .invokevirtual 290, 3, 210, 0), (90, .ireturn, 1, 0, 0), (91, .aload_n 0, 1, 0, 0), (92, .invokevirtual 293, 3, 211, 0), (95, .ireturn, 1, 0, 0), (96, .aload_n 0, 1, 0, 0), (97, .invokevirtual 296, 3, 212, 0), (100, .ireturn, 1, 0, 0), (101, .aload_n 0, 1, 0, 0), (102, .invokevirtual 299, 3, 213, 0), (105, .ireturn, 1, 0, 0), (106, .aload_n 0, 1, 0, 0), (107, .invokevirtual 302, 3, 214, 0), (110, .ireturn, 1, 0, 0)]
theorem mfM_readsWord_m : z_me 219 zC_219_m 2 [] (some .boolean) := ⟨z_me1 (cd := zc_219) rfl (by decide +kernel), rfl, rfl, rfl⟩
def fM_readsWord (N : Nat) (l0 : Nat) (l1 : Int32) (h : zH) : Option (Int32 × zH) := cond (fT h l0 5) (cond (decide ((l1).toInt < 0) || decide (9 < (l1).toInt)) (b2 (fM_readsJoin N l0 h) fun x1 h2 => cond (decide (x1 = Int32.ofInt 0) || decide (x1 = Int32.ofInt 1)) (some (x1, h2)) none) (z_nth [b2 (fM_readsText N l0 h) fun x3 h4 => cond (decide (x3 = Int32.ofInt 0) || decide (x3 = Int32.ofInt 1)) (some (x3, h4)) none, b2 (fM_readsAppend N l0 h) fun x5 h6 => cond (decide (x5 = Int32.ofInt 0) || decide (x5 = Int32.ofInt 1)) (some (x5, h6)) none, b2 (fM_readsDrop N l0 h) fun x7 h8 => cond (decide (x7 = Int32.ofInt 0) || decide (x7 = Int32.ofInt 1)) (some (x7, h8)) none, b2 (fM_readsPart N l0 h) fun x9 h10 => cond (decide (x9 = Int32.ofInt 0) || decide (x9 = Int32.ofInt 1)) (some (x9, h10)) none, b2 (fM_readsRotate N l0 h) fun x11 h12 => cond (decide (x11 = Int32.ofInt 0) || decide (x11 = Int32.ofInt 1)) (some (x11, h12)) none, b2 (fM_readsReverse N l0 h) fun x13 h14 => cond (decide (x13 = Int32.ofInt 0) || decide (x13 = Int32.ofInt 1)) (some (x13, h14)) none, b2 (fM_readsLeast N l0 h) fun x15 h16 => cond (decide (x15 = Int32.ofInt 0) || decide (x15 = Int32.ofInt 1)) (some (x15, h16)) none, b2 (fM_readsNext N l0 h) fun x17 h18 => cond (decide (x17 = Int32.ofInt 0) || decide (x17 = Int32.ofInt 1)) (some (x17, h18)) none, b2 (fM_readsKeep N l0 h) fun x19 h20 => cond (decide (x19 = Int32.ofInt 0) || decide (x19 = Int32.ofInt 1)) (some (x19, h20)) none, b2 (fM_readsRemove N l0 h) fun x21 h22 => cond (decide (x21 = Int32.ofInt 0) || decide (x21 = Int32.ofInt 1)) (some (x21, h22)) none] ((l1).toInt - 0).toNat none)) none
theorem sfM_readsWord {xs : List Int32} (N : Nat) (l0 : Nat) (l1 : Int32) (h : zH) (r : Int32 × zH) (e : fM_readsWord N l0 l1 h = some r) : zt xs (7) 219 0 [(0, .ref l0), (1, .int l1)] [] h 0 0 (zQ cI r) := by
  have hy := mfM_readsWord_m
  unfold fM_readsWord at e
  replace e := (cond_some e).2
  exact zl hy 1 (pc2 := 1) (lv2 := [(0, .ref l0), (1, .int l1)]) (st2 := [.int l1]) rfl <| zx_tsw hy [56, 61, 66, 71, 76, 81, 86, 91, 96, 101] 106 rfl rfl rfl e (fun e => zl hy 1 (pc2 := 107) (lv2 := [(0, .ref l0), (1, .int l1)]) (st2 := [.ref l0]) rfl <| zx_call hy (as := [.ref l0]) (rest := []) (ov := (fun v => some (.int v))) (fun _ => rfl) rfl rfl (Or.inl rfl) rfl rfl (Nat.le_of_ble_eq_true rfl) (Nat.le_of_ble_eq_true rfl) (fun _ e _ => z_rcvT (rfM_readsJoin N l0 h _ e)) (fun _ e => zt_deep (Nat.le_of_ble_eq_true rfl) (sfM_readsJoin N l0 h _ e)) e fun x1 h2 _ e => zx_retB hy rfl rfl e) ⟨fun e => zl hy 1 (pc2 := 57) (lv2 := [(0, .ref l0), (1, .int l1)]) (st2 := [.ref l0]) rfl <| zx_call hy (as := [.ref l0]) (rest := []) (ov := (fun v => some (.int v))) (fun _ => rfl) rfl rfl (Or.inl rfl) rfl rfl (Nat.le_of_ble_eq_true rfl) (Nat.le_of_ble_eq_true rfl) (fun _ e _ => z_rcvT (rfM_readsText N l0 h _ e)) (fun _ e => zt_deep (Nat.le_of_ble_eq_true rfl) (sfM_readsText N l0 h _ e)) e fun x3 h4 _ e => zx_retB hy rfl rfl e, ⟨fun e => zl hy 1 (pc2 := 62) (lv2 := [(0, .ref l0), (1, .int l1)]) (st2 := [.ref l0]) rfl <| zx_call hy (as := [.ref l0]) (rest := []) (ov := (fun v => some (.int v))) (fun _ => rfl) rfl rfl (Or.inl rfl) rfl rfl (Nat.le_of_ble_eq_true rfl) (Nat.le_of_ble_eq_true rfl) (fun _ e _ => z_rcvT (rfM_readsAppend N l0 h _ e)) (fun _ e => zt_deep (Nat.le_of_ble_eq_true rfl) (sfM_readsAppend N l0 h _ e)) e fun x5 h6 _ e => zx_retB hy rfl rfl e, ⟨fun e => zl hy 1 (pc2 := 67) (lv2 := [(0, .ref l0), (1, .int l1)]) (st2 := [.ref l0]) rfl <| zx_call hy (as := [.ref l0]) (rest := []) (ov := (fun v => some (.int v))) (fun _ => rfl) rfl rfl (Or.inl rfl) rfl rfl (Nat.le_of_ble_eq_true rfl) (Nat.le_of_ble_eq_true rfl) (fun _ e _ => z_rcvT (rfM_readsDrop N l0 h _ e)) (fun _ e => zt_deep (Nat.le_of_ble_eq_true rfl) (sfM_readsDrop N l0 h _ e)) e fun x7 h8 _ e => zx_retB hy rfl rfl e, ⟨fun e => zl hy 1 (pc2 := 72) (lv2 := [(0, .ref l0), (1, .int l1)]) (st2 := [.ref l0]) rfl <| zx_call hy (as := [.ref l0]) (rest := []) (ov := (fun v => some (.int v))) (fun _ => rfl) rfl rfl (Or.inl rfl) rfl rfl (Nat.le_of_ble_eq_true rfl) (Nat.le_of_ble_eq_true rfl) (fun _ e _ => z_rcvT (rfM_readsPart N l0 h _ e)) (fun _ e => zt_deep (Nat.le_of_ble_eq_true rfl) (sfM_readsPart N l0 h _ e)) e fun x9 h10 _ e => zx_retB hy rfl rfl e, ⟨fun e => zl hy 1 (pc2 := 77) (lv2 := [(0, .ref l0), (1, .int l1)]) (st2 := [.ref l0]) rfl <| zx_call hy (as := [.ref l0]) (rest := []) (ov := (fun v => some (.int v))) (fun _ => rfl) rfl rfl (Or.inl rfl) rfl rfl (Nat.le_of_ble_eq_true rfl) (Nat.le_of_ble_eq_true rfl) (fun _ e _ => z_rcvT (rfM_readsRotate N l0 h _ e)) (fun _ e => zt_deep (Nat.le_of_ble_eq_true rfl) (sfM_readsRotate N l0 h _ e)) e fun x11 h12 _ e => zx_retB hy rfl rfl e, ⟨fun e => zl hy 1 (pc2 := 82) (lv2 := [(0, .ref l0), (1, .int l1)]) (st2 := [.ref l0]) rfl <| zx_call hy (as := [.ref l0]) (rest := []) (ov := (fun v => some (.int v))) (fun _ => rfl) rfl rfl (Or.inl rfl) rfl rfl (Nat.le_of_ble_eq_true rfl) (Nat.le_of_ble_eq_true rfl) (fun _ e _ => z_rcvT (rfM_readsReverse N l0 h _ e)) (fun _ e => zt_deep (Nat.le_of_ble_eq_true rfl) (sfM_readsReverse N l0 h _ e)) e fun x13 h14 _ e => zx_retB hy rfl rfl e, ⟨fun e => zl hy 1 (pc2 := 87) (lv2 := [(0, .ref l0), (1, .int l1)]) (st2 := [.ref l0]) rfl <| zx_call hy (as := [.ref l0]) (rest := []) (ov := (fun v => some (.int v))) (fun _ => rfl) rfl rfl (Or.inl rfl) rfl rfl (Nat.le_of_ble_eq_true rfl) (Nat.le_of_ble_eq_true rfl) (fun _ e _ => z_rcvT (rfM_readsLeast N l0 h _ e)) (fun _ e => zt_deep (Nat.le_of_ble_eq_true rfl) (sfM_readsLeast N l0 h _ e)) e fun x15 h16 _ e => zx_retB hy rfl rfl e, ⟨fun e => zl hy 1 (pc2 := 92) (lv2 := [(0, .ref l0), (1, .int l1)]) (st2 := [.ref l0]) rfl <| zx_call hy (as := [.ref l0]) (rest := []) (ov := (fun v => some (.int v))) (fun _ => rfl) rfl rfl (Or.inl rfl) rfl rfl (Nat.le_of_ble_eq_true rfl) (Nat.le_of_ble_eq_true rfl) (fun _ e _ => z_rcvT (rfM_readsNext N l0 h _ e)) (fun _ e => zt_deep (Nat.le_of_ble_eq_true rfl) (sfM_readsNext N l0 h _ e)) e fun x17 h18 _ e => zx_retB hy rfl rfl e, ⟨fun e => zl hy 1 (pc2 := 97) (lv2 := [(0, .ref l0), (1, .int l1)]) (st2 := [.ref l0]) rfl <| zx_call hy (as := [.ref l0]) (rest := []) (ov := (fun v => some (.int v))) (fun _ => rfl) rfl rfl (Or.inl rfl) rfl rfl (Nat.le_of_ble_eq_true rfl) (Nat.le_of_ble_eq_true rfl) (fun _ e _ => z_rcvT (rfM_readsKeep N l0 h _ e)) (fun _ e => zt_deep (Nat.le_of_ble_eq_true rfl) (sfM_readsKeep N l0 h _ e)) e fun x19 h20 _ e => zx_retB hy rfl rfl e, ⟨fun e => zl hy 1 (pc2 := 102) (lv2 := [(0, .ref l0), (1, .int l1)]) (st2 := [.ref l0]) rfl <| zx_call hy (as := [.ref l0]) (rest := []) (ov := (fun v => some (.int v))) (fun _ => rfl) rfl rfl (Or.inl rfl) rfl rfl (Nat.le_of_ble_eq_true rfl) (Nat.le_of_ble_eq_true rfl) (fun _ e _ => z_rcvT (rfM_readsRemove N l0 h _ e)) (fun _ e => zt_deep (Nat.le_of_ble_eq_true rfl) (sfM_readsRemove N l0 h _ e)) e fun x21 h22 _ e => zx_retB hy rfl rfl e, trivial⟩⟩⟩⟩⟩⟩⟩⟩⟩⟩
theorem rfM_readsWord (N : Nat) (l0 : Nat) (l1 : Int32) (h : zH) (r : Int32 × zH) (e : fM_readsWord N l0 l1 h = some r) : fT h l0 5 = true := by
  unfold fM_readsWord at e
  exact (cond_some e).1
/-- LyndonBenchModel.readsCommand(I)Z -/
theorem mfM_readsCommand : z_me 218 zc_218 3 [] (some .boolean) := ⟨z_me0 rfl, rfl, rfl, rfl⟩
def fM_readsCommand_B (N : Nat) (rc : Nat → Int32 → zH → Option (Int32 × zH)) (l0 : Nat) (l1 : Int32) (h : zH) : Option (Int32 × zH) := cond (fT h l0 5) (b2 (fM_wordAhead N l0 h) fun x1 h2 => cond (z_cmp .ne x1 (Int32.ofInt (-1))) (cond (z_cmp .ne x1 (Int32.ofInt 11)) (b1 (fI h2 l0 5 22) fun x3 => cond (z_cmp .ne x3 (Int32.ofInt 200)) (b1 (fI h2 l0 5 22) fun x4 => b1 (fS h2 l0 5 22 (.int (x4 + (Int32.ofInt 1)))) fun h5 => b2 (fM_next N l0 h5) fun _ h7 => b2 (fM_readsWord N l0 x1 h7) fun x8 h9 => cond (decide (x8 = Int32.ofInt 0) || decide (x8 = Int32.ofInt 1)) (some (x8, h9)) none) (b2 (fM_fail N l0 (Int32.ofInt 5) h2) fun x10 h11 => cond (decide (x10 = Int32.ofInt 0) || decide (x10 = Int32.ofInt 1)) (some (x10, h11)) none)) (cond (z_cmp .ne l1 (Int32.ofInt 2)) (b2 (fM_next N l0 h2) fun _ h13 => b2 (fM_readsRepeat N rc l0 l1 h13) fun x14 h15 => cond (decide (x14 = Int32.ofInt 0) || decide (x14 = Int32.ofInt 1)) (some (x14, h15)) none) (b2 (fM_fail N l0 (Int32.ofInt 4) h2) fun x16 h17 => cond (decide (x16 = Int32.ofInt 0) || decide (x16 = Int32.ofInt 1)) (some (x16, h17)) none))) (b2 (fM_fail N l0 (Int32.ofInt 1) h2) fun x18 h19 => cond (decide (x18 = Int32.ofInt 0) || decide (x18 = Int32.ofInt 1)) (some (x18, h19)) none)) none
theorem sfM_readsCommand_B {xs : List Int32} (N : Nat) (rc : Nat → Int32 → zH → Option (Int32 × zH)) {D : Nat} (hrc : ∀ (l0 : Nat) (l1 : Int32) (h : zH) (r : Int32 × zH), rc l0 l1 h = some r → zt xs D 218 0 [(0, .ref l0), (1, .int l1)] [] h 0 0 (zQ cI r)) (hrf : ∀ (l0 : Nat) (l1 : Int32) (h : zH) (r : Int32 × zH), rc l0 l1 h = some r → fT h l0 5 = true) (l0 : Nat) (l1 : Int32) (h : zH) (r : Int32 × zH) (e : fM_readsCommand_B N rc l0 l1 h = some r) : zt xs (D + 8) 218 0 [(0, .ref l0), (1, .int l1)] [] h 0 0 (zQ cI r) := by
  have hy := mfM_readsCommand
  unfold fM_readsCommand_B at e
  replace e := (cond_some e).2
  exact zl hy 1 (pc2 := 1) (lv2 := [(0, .ref l0), (1, .int l1)]) (st2 := [.ref l0]) rfl <| zx_call hy (as := [.ref l0]) (rest := []) (ov := (fun v => some (.int v))) (fun _ => rfl) rfl rfl (Or.inl rfl) rfl rfl (Nat.le_of_ble_eq_true rfl) (Nat.le_of_ble_eq_true rfl) (fun _ e _ => z_rcvT (rfM_wordAhead N l0 h _ e)) (fun _ e => zt_deep (Nat.le_trans (m := 7) (Nat.le_of_ble_eq_true rfl) (Nat.le_add_left _ _)) (sfM_wordAhead N l0 h _ e)) e fun x1 h2 _ e => zl hy 3 (pc2 := 7) (lv2 := [(2, .int x1), (0, .ref l0), (1, .int l1)]) (st2 := [.int (Int32.ofInt (-1)), .int x1]) rfl <| zx_c hy rfl e (fun _ e => zl hy 1 (pc2 := 17) (lv2 := [(2, .int x1), (0, .ref l0), (1, .int l1)]) (st2 := [.int x1]) rfl <| zx_bip hy (c := 11) rfl (by decide) <| zx_c hy rfl e (fun _ e => zl hy 1 (pc2 := 44) (lv2 := [(2, .int x1), (0, .ref l0), (1, .int l1)]) (st2 := [.ref l0]) rfl <| zx_gI hy rfl e fun x3 _ e => zx_sip hy (c := 200) rfl (by decide) <| zx_c hy rfl e (fun _ e => zl hy 2 (pc2 := 61) (lv2 := [(2, .int x1), (0, .ref l0), (1, .int l1)]) (st2 := [.ref l0, .ref l0]) rfl <| zx_gI hy rfl e fun x4 _ e => zl hy 2 (pc2 := 66) (lv2 := [(2, .int x1), (0, .ref l0), (1, .int l1)]) (st2 := [.int (x4 + (Int32.ofInt 1)), .ref l0]) rfl <| zx_pf hy rfl e (rfl) fun h5 _ e => zl hy 1 (pc2 := 70) (lv2 := [(2, .int x1), (0, .ref l0), (1, .int l1)]) (st2 := [.ref l0]) rfl <| zx_call hy (as := [.ref l0]) (rest := []) (ov := (fun _ => none)) (fun _ => rfl) rfl rfl (Or.inl rfl) rfl rfl (Nat.le_of_ble_eq_true rfl) (Nat.le_of_ble_eq_true rfl) (fun _ e _ => z_rcvT (rfM_next N l0 h5 _ e)) (fun _ e => zt_deep (Nat.le_trans (m := 7) (Nat.le_of_ble_eq_true rfl) (Nat.le_add_left _ _)) (sfM_next N l0 h5 _ e)) e fun _ h7 _ e => zl hy 2 (pc2 := 75) (lv2 := [(2, .int x1), (0, .ref l0), (1, .int l1)]) (st2 := [.int x1, .ref l0]) rfl <| zx_call hy (as := [.ref l0, .int x1]) (rest := []) (ov := (fun v => some (.int v))) (fun _ => rfl) rfl rfl (Or.inl rfl) rfl rfl (Nat.le_of_ble_eq_true rfl) (Nat.le_of_ble_eq_true rfl) (fun _ e _ => z_rcvT (rfM_readsWord N l0 x1 h7 _ e)) (fun _ e => zt_deep (Nat.le_trans (m := 7) (Nat.le_of_ble_eq_true rfl) (Nat.le_add_left _ _)) (sfM_readsWord N l0 x1 h7 _ e)) e fun x8 h9 _ e => zx_retB hy rfl rfl e) (fun _ e => zl hy 2 (pc2 := 55) (lv2 := [(2, .int x1), (0, .ref l0), (1, .int l1)]) (st2 := [.int (Int32.ofInt 5), .ref l0]) rfl <| zx_call hy (as := [.ref l0, .int (Int32.ofInt 5)]) (rest := []) (ov := (fun v => some (.int v))) (fun _ => rfl) rfl rfl (Or.inl rfl) rfl rfl (Nat.le_of_ble_eq_true rfl) (Nat.le_of_ble_eq_true rfl) (fun _ e _ => z_rcvT (rfM_fail N l0 (Int32.ofInt 5) h2 _ e)) (fun _ e => zt_deep (Nat.le_trans (m := 7) (Nat.le_of_ble_eq_true rfl) (Nat.le_add_left _ _)) (sfM_fail N l0 (Int32.ofInt 5) h2 _ e)) e fun x10 h11 _ e => zx_retB hy rfl rfl e)) (fun _ e => zl hy 2 (pc2 := 24) (lv2 := [(2, .int x1), (0, .ref l0), (1, .int l1)]) (st2 := [.int (Int32.ofInt 2), .int l1]) rfl <| zx_c hy rfl e (fun _ e => zl hy 1 (pc2 := 34) (lv2 := [(2, .int x1), (0, .ref l0), (1, .int l1)]) (st2 := [.ref l0]) rfl <| zx_call hy (as := [.ref l0]) (rest := []) (ov := (fun _ => none)) (fun _ => rfl) rfl rfl (Or.inl rfl) rfl rfl (Nat.le_of_ble_eq_true rfl) (Nat.le_of_ble_eq_true rfl) (fun _ e _ => z_rcvT (rfM_next N l0 h2 _ e)) (fun _ e => zt_deep (Nat.le_trans (m := 7) (Nat.le_of_ble_eq_true rfl) (Nat.le_add_left _ _)) (sfM_next N l0 h2 _ e)) e fun _ h13 _ e => zl hy 2 (pc2 := 39) (lv2 := [(2, .int x1), (0, .ref l0), (1, .int l1)]) (st2 := [.int l1, .ref l0]) rfl <| zx_call hy (as := [.ref l0, .int l1]) (rest := []) (ov := (fun v => some (.int v))) (fun _ => rfl) rfl rfl (Or.inl rfl) rfl rfl (Nat.le_of_ble_eq_true rfl) (Nat.le_of_ble_eq_true rfl) (fun _ e _ => z_rcvT (rfM_readsRepeat N rc l0 l1 h13 _ e)) (fun _ e => zt_deep (Nat.add_le_add_left (Nat.le_of_ble_eq_true rfl) _) (sfM_readsRepeat N rc hrc hrf l0 l1 h13 _ e)) e fun x14 h15 _ e => zx_retB hy rfl rfl e) (fun _ e => zl hy 2 (pc2 := 29) (lv2 := [(2, .int x1), (0, .ref l0), (1, .int l1)]) (st2 := [.int (Int32.ofInt 4), .ref l0]) rfl <| zx_call hy (as := [.ref l0, .int (Int32.ofInt 4)]) (rest := []) (ov := (fun v => some (.int v))) (fun _ => rfl) rfl rfl (Or.inl rfl) rfl rfl (Nat.le_of_ble_eq_true rfl) (Nat.le_of_ble_eq_true rfl) (fun _ e _ => z_rcvT (rfM_fail N l0 (Int32.ofInt 4) h2 _ e)) (fun _ e => zt_deep (Nat.le_trans (m := 7) (Nat.le_of_ble_eq_true rfl) (Nat.le_add_left _ _)) (sfM_fail N l0 (Int32.ofInt 4) h2 _ e)) e fun x16 h17 _ e => zx_retB hy rfl rfl e))) (fun _ e => zl hy 2 (pc2 := 12) (lv2 := [(2, .int x1), (0, .ref l0), (1, .int l1)]) (st2 := [.int (Int32.ofInt 1), .ref l0]) rfl <| zx_call hy (as := [.ref l0, .int (Int32.ofInt 1)]) (rest := []) (ov := (fun v => some (.int v))) (fun _ => rfl) rfl rfl (Or.inl rfl) rfl rfl (Nat.le_of_ble_eq_true rfl) (Nat.le_of_ble_eq_true rfl) (fun _ e _ => z_rcvT (rfM_fail N l0 (Int32.ofInt 1) h2 _ e)) (fun _ e => zt_deep (Nat.le_trans (m := 7) (Nat.le_of_ble_eq_true rfl) (Nat.le_add_left _ _)) (sfM_fail N l0 (Int32.ofInt 1) h2 _ e)) e fun x18 h19 _ e => zx_retB hy rfl rfl e)
theorem rfM_readsCommand_B (N : Nat) (rc : Nat → Int32 → zH → Option (Int32 × zH)) (l0 : Nat) (l1 : Int32) (h : zH) (r : Int32 × zH) (e : fM_readsCommand_B N rc l0 l1 h = some r) : fT h l0 5 = true := by
  unfold fM_readsCommand_B at e
  exact (cond_some e).1
def fM_readsCommand (N : Nat) : Nat → Nat → Int32 → zH → Option (Int32 × zH)
  | 0, _, _, _ => none
  | R + 1, l0, l1, h => fM_readsCommand_B N (fM_readsCommand N R) l0 l1 h
theorem rfM_readsCommand (N R : Nat) (l0 : Nat) (l1 : Int32) (h : zH) (r : Int32 × zH) (e : fM_readsCommand N R l0 l1 h = some r) : fT h l0 5 = true := by
  cases R with
  | zero => rw [fM_readsCommand] at e; cases e
  | succ R => rw [fM_readsCommand] at e; exact rfM_readsCommand_B N _ l0 l1 h r e
theorem sfM_readsCommand {xs : List Int32} (N : Nat) : ∀ (R : Nat) (l0 : Nat) (l1 : Int32) (h : zH) (r : Int32 × zH), fM_readsCommand N R l0 l1 h = some r → zt xs (R * 8) 218 0 [(0, .ref l0), (1, .int l1)] [] h 0 0 (zQ cI r) := by
  intro R
  induction R with
  | zero =>
    intro l0 l1 h r e
    rw [fM_readsCommand] at e
    cases e
  | succ R ih =>
    intro l0 l1 h r e
    rw [fM_readsCommand] at e
    rw [Nat.succ_mul]
    exact sfM_readsCommand_B N _ ih (rfM_readsCommand N R) l0 l1 h r e
/-- LyndonBenchModel.readsAll()Z -/
theorem mfM_readsAll : z_me 220 zc_220 1 [] (some .boolean) := ⟨z_me0 rfl, rfl, rfl, rfl⟩
abbrev zC_220_39 : List zE := [(39, .iconst 0, 1, 0, 0), (40, .ireturn, 1, 0, 0)]
theorem mfM_readsAll_39 : z_me 220 zC_220_39 1 [] (some .boolean) := ⟨z_me1 (cd := zc_220) rfl (by decide +kernel), rfl, rfl, rfl⟩
abbrev zC_220_57 : List zE := [(57, .aload_n 0, 1, 0, 0), (58, .getfield 158, 3, 5, 18), (61, .ifCond .eq 20, 3, 81, 0), (64, .aload_n 0, 1, 0, 0), (65, .iconst 0, 1, 0, 0), (66, .invokevirtual 229, 3, 218, 1), (69, .ifCond .ne 5, 3, 74, 0), (72, .iconst 0, 1, 0, 0), (73, .ireturn, 1, 0, 0), (74, .aload_n 0, 1, 0, 0), (75, .invokevirtual 177, 3, 197, 0), (78, .goto (-21), 3, 57, 0), (81, .iconst 1, 1, 0, 0), (82, .ireturn, 1, 0, 0)]
theorem mfM_readsAll_57 : z_me 220 zC_220_57 1 [] (some .boolean) := ⟨z_me1 (cd := zc_220) rfl (by decide +kernel), rfl, rfl, rfl⟩
abbrev zC_220_m : List zE := [(0, .aload_n 0, 1, 0, 0), (1, .ldc_w 305, 3, 1, 47), (4, .invokevirtual 233, 3, 198, 1), (7, .ifCond .ne 9, 3, 16, 0), (10, .aload_n 0, 1, 0, 0), (11, .iconst 1, 1, 0, 0), (12, .invokevirtual 170, 3, 199, 1), (15, .ireturn, 1, 0, 0), (16, .aload_n 0, 1, 0, 0), (17, .invokevirtual 177, 3, 197, 0), (20, .aload_n 0, 1, 0, 0), (21, .iconst 0, 1, 0, 0), (22, .iconst 2, 1, 0, 0), (23, .bipush 9, 2, 0, 0), (25, .invokevirtual 190, 3, 201, 3), (28, .ifCond .eq 11, 3, 39, 0), (31, .aload_n 0, 1, 0, 0), (32, .iconst 1, 1, 0, 0), (33, .invokevirtual 174, 3, 200, 1), (36, .ifCond .ne 5, 3, 41, 0), (41, .aload_n 0, 1, 0, 0), (42, .getfield 7, 3, 5, 0), (45, .iconst 0, 1, 0, 0), (46, .aload_n 0, 1, 0, 0), (47, .getfield 42, 3, 5, 23), (50, .iconst 0, 1, 0, 0), (51, .iaload, 1, 0, 0), (52, .iastore, 1, 0, 0), (53, .aload_n 0, 1, 0, 0), (54, .invokevirtual 177, 3, 197, 0)]
theorem mfM_readsAll_m : z_me 220 zC_220_m 1 [] (some .boolean) := ⟨z_me1 (cd := zc_220) rfl (by decide +kernel), rfl, rfl, rfl⟩
def fM_readsAll_39 (N : Nat)   (h : zH) : Option (Int32 × zH) := some ((Int32.ofInt 0), h)
theorem sfM_readsAll_39 {xs : List Int32} (N : Nat)    (h : zH) (r : Int32 × zH) (e : fM_readsAll_39 N   h = some r) : zt xs (65) 220 39 [] [] h 0 0 (zQ cI r) := by
  have hy := mfM_readsAll_39
  unfold fM_readsAll_39 at e
  exact zl hy 1 (pc2 := 40) (lv2 := []) (st2 := [.int (Int32.ofInt 0)]) rfl <| zx_ret hy (v := .int (Int32.ofInt 0)) rfl rfl (by decide) rfl e
def fM_readsAll_57 (N : Nat) : Nat → Nat → zH → Option (Int32 × zH)
  | 0, _, _ => none
  | n + 1, l0, h => b1 (fI h l0 5 18) fun x15 => cond (z_cmp .eq x15 (Int32.ofInt 0)) (some ((Int32.ofInt 1), h)) (b2 (fM_readsCommand N 8 l0 (Int32.ofInt 0) h) fun x16 h17 => cond (z_cmp .ne x16 (Int32.ofInt 0)) (b2 (fM_next N l0 h17) fun _ h19 => fM_readsAll_57 N n  l0 h19) (some ((Int32.ofInt 0), h17)))
theorem sfM_readsAll_57 {xs : List Int32} (N : Nat)   : ∀ (n : Nat) (l0 : Nat) (h : zH) (r : Int32 × zH), fM_readsAll_57 N n  l0 h = some r → zt xs (65) 220 57 [(0, .ref l0)] [] h 0 0 (zQ cI r) := by
  have hy := mfM_readsAll_57
  intro n
  induction n with
  | zero =>
    intro l0 h r e
    rw [fM_readsAll_57] at e
    cases e
  | succ n ih =>
    intro l0 h r e
    rw [fM_readsAll_57] at e
    exact zl hy 1 (pc2 := 58) (lv2 := [(0, .ref l0)]) (st2 := [.ref l0]) rfl <| zx_gI hy rfl e fun x15 _ e => zx_c0 hy rfl e (fun _ e => zl hy 1 (pc2 := 82) (lv2 := [(0, .ref l0)]) (st2 := [.int (Int32.ofInt 1)]) rfl <| zx_ret hy (v := .int (Int32.ofInt 1)) rfl rfl (by decide) rfl e) (fun _ e => zl hy 2 (pc2 := 66) (lv2 := [(0, .ref l0)]) (st2 := [.int (Int32.ofInt 0), .ref l0]) rfl <| zx_call hy (as := [.ref l0, .int (Int32.ofInt 0)]) (rest := []) (ov := (fun v => some (.int v))) (fun _ => rfl) rfl rfl (Or.inl rfl) rfl rfl (Nat.le_of_ble_eq_true rfl) (Nat.le_of_ble_eq_true rfl) (fun _ e _ => z_rcvT (rfM_readsCommand N 8 l0 (Int32.ofInt 0) h _ e)) (fun _ e => zt_deep (Nat.le_of_ble_eq_true rfl) (sfM_readsCommand N 8 l0 (Int32.ofInt 0) h _ e)) e fun x16 h17 _ e => zx_c0 hy rfl e (fun _ e => zl hy 1 (pc2 := 75) (lv2 := [(0, .ref l0)]) (st2 := [.ref l0]) rfl <| zx_call hy (as := [.ref l0]) (rest := []) (ov := (fun _ => none)) (fun _ => rfl) rfl rfl (Or.inl rfl) rfl rfl (Nat.le_of_ble_eq_true rfl) (Nat.le_of_ble_eq_true rfl) (fun _ e _ => z_rcvT (rfM_next N l0 h17 _ e)) (fun _ e => zt_deep (Nat.le_of_ble_eq_true rfl) (sfM_next N l0 h17 _ e)) e fun _ h19 _ e => zl hy 1 (pc2 := 57) (lv2 := [(0, .ref l0)]) (st2 := []) rfl <| zt_sub (z_fc rfl (z_fn)) <| ih l0 h19 _ e) (fun _ e => zl hy 1 (pc2 := 73) (lv2 := [(0, .ref l0)]) (st2 := [.int (Int32.ofInt 0)]) rfl <| zx_ret hy (v := .int (Int32.ofInt 0)) rfl rfl (by decide) rfl e))
def fM_readsAll (N : Nat) (l0 : Nat) (h : zH) : Option (Int32 × zH) := cond (fT h l0 5) (b2 (fM_says N l0 1000073 h) fun x1 h2 => cond (z_cmp .ne x1 (Int32.ofInt 0)) (b2 (fM_next N l0 h2) fun _ h4 => b2 (fM_number N l0 (Int32.ofInt 0) (Int32.ofInt 2) (Int32.ofInt 9) h4) fun x5 h6 => cond (z_cmp .eq x5 (Int32.ofInt 0)) (fM_readsAll_39 N   h6) (b2 (fM_is N l0 (Int32.ofInt 1) h6) fun x7 h8 => cond (z_cmp .ne x7 (Int32.ofInt 0)) (b1 (fR h8 l0 5 0) fun x9 => b1 (fR h8 l0 5 23) fun x10 => b1 (fAI h8 x10 100 (Int32.ofInt 0)) fun x11 => b1 (fAS h8 x9 100 (Int32.ofInt 0) (.int x11)) fun h12 => b2 (fM_next N l0 h12) fun _ h14 => fM_readsAll_57 N N  l0 h14) (fM_readsAll_39 N   h8))) (b2 (fM_fail N l0 (Int32.ofInt 1) h2) fun x15 h16 => cond (decide (x15 = Int32.ofInt 0) || decide (x15 = Int32.ofInt 1)) (some (x15, h16)) none)) none
theorem sfM_readsAll {xs : List Int32} (N : Nat) (l0 : Nat) (h : zH) (r : Int32 × zH) (e : fM_readsAll N l0 h = some r) : zt xs (65) 220 0 [(0, .ref l0)] [] h 0 0 (zQ cI r) := by
  have hy := mfM_readsAll_m
  unfold fM_readsAll at e
  replace e := (cond_some e).2
  exact zl hy 1 (pc2 := 1) (lv2 := [(0, .ref l0)]) (st2 := [.ref l0]) rfl <| zx_ldcw hy (q := 1000073) rfl rfl rfl <| zx_call hy (as := [.ref l0, .ref 1000073]) (rest := []) (ov := (fun v => some (.int v))) (fun _ => rfl) rfl rfl (Or.inl rfl) rfl rfl (Nat.le_of_ble_eq_true rfl) (Nat.le_of_ble_eq_true rfl) (fun _ e _ => z_rcvT (rfM_says N l0 1000073 h _ e)) (fun _ e => zt_deep (Nat.le_of_ble_eq_true rfl) (sfM_says N l0 1000073 h _ e)) e fun x1 h2 _ e => zx_c0 hy rfl e (fun _ e => zl hy 1 (pc2 := 17) (lv2 := [(0, .ref l0)]) (st2 := [.ref l0]) rfl <| zx_call hy (as := [.ref l0]) (rest := []) (ov := (fun _ => none)) (fun _ => rfl) rfl rfl (Or.inl rfl) rfl rfl (Nat.le_of_ble_eq_true rfl) (Nat.le_of_ble_eq_true rfl) (fun _ e _ => z_rcvT (rfM_next N l0 h2 _ e)) (fun _ e => zt_deep (Nat.le_of_ble_eq_true rfl) (sfM_next N l0 h2 _ e)) e fun _ h4 _ e => zl hy 3 (pc2 := 23) (lv2 := [(0, .ref l0)]) (st2 := [.int (Int32.ofInt 2), .int (Int32.ofInt 0), .ref l0]) rfl <| zx_bip hy (c := 9) rfl (by decide) <| zx_call hy (as := [.ref l0, .int (Int32.ofInt 0), .int (Int32.ofInt 2), .int (Int32.ofInt 9)]) (rest := []) (ov := (fun v => some (.int v))) (fun _ => rfl) rfl rfl (Or.inl rfl) rfl rfl (Nat.le_of_ble_eq_true rfl) (Nat.le_of_ble_eq_true rfl) (fun _ e _ => z_rcvT (rfM_number N l0 (Int32.ofInt 0) (Int32.ofInt 2) (Int32.ofInt 9) h4 _ e)) (fun _ e => zt_deep (Nat.le_of_ble_eq_true rfl) (sfM_number N l0 (Int32.ofInt 0) (Int32.ofInt 2) (Int32.ofInt 9) h4 _ e)) e fun x5 h6 _ e => zx_c0 hy rfl e (fun _ e => zt_sub (z_fn) <| sfM_readsAll_39 N    h6 _ e) (fun _ e => zl hy 2 (pc2 := 33) (lv2 := [(0, .ref l0)]) (st2 := [.int (Int32.ofInt 1), .ref l0]) rfl <| zx_call hy (as := [.ref l0, .int (Int32.ofInt 1)]) (rest := []) (ov := (fun v => some (.int v))) (fun _ => rfl) rfl rfl (Or.inl rfl) rfl rfl (Nat.le_of_ble_eq_true rfl) (Nat.le_of_ble_eq_true rfl) (fun _ e _ => z_rcvT (rfM_is N l0 (Int32.ofInt 1) h6 _ e)) (fun _ e => zt_deep (Nat.le_of_ble_eq_true rfl) (sfM_is N l0 (Int32.ofInt 1) h6 _ e)) e fun x7 h8 _ e => zx_c0 hy rfl e (fun _ e => zl hy 1 (pc2 := 42) (lv2 := [(0, .ref l0)]) (st2 := [.ref l0]) rfl <| zx_gR hy rfl e fun x9 _ e => zl hy 2 (pc2 := 47) (lv2 := [(0, .ref l0)]) (st2 := [.ref l0, .int (Int32.ofInt 0), .ref x9]) rfl <| zx_gR hy rfl e fun x10 _ e => zl hy 1 (pc2 := 51) (lv2 := [(0, .ref l0)]) (st2 := [.int (Int32.ofInt 0), .ref x10, .int (Int32.ofInt 0), .ref x9]) rfl <| zx_aI hy (j := .iaload) (Or.inl ⟨rfl, rfl⟩) rfl e fun x11 _ e => zx_sI hy (j := .iastore) (Or.inl ⟨rfl, rfl, rfl⟩) rfl e fun h12 _ e => zl hy 1 (pc2 := 54) (lv2 := [(0, .ref l0)]) (st2 := [.ref l0]) rfl <| zx_call hy (as := [.ref l0]) (rest := []) (ov := (fun _ => none)) (fun _ => rfl) rfl rfl (Or.inl rfl) rfl rfl (Nat.le_of_ble_eq_true rfl) (Nat.le_of_ble_eq_true rfl) (fun _ e _ => z_rcvT (rfM_next N l0 h12 _ e)) (fun _ e => zt_deep (Nat.le_of_ble_eq_true rfl) (sfM_next N l0 h12 _ e)) e fun _ h14 _ e => zt_sub (z_fc rfl (z_fn)) <| sfM_readsAll_57 N   N l0 h14 _ e) (fun _ e => zt_sub (z_fn) <| sfM_readsAll_39 N    h8 _ e))) (fun _ e => zl hy 2 (pc2 := 12) (lv2 := [(0, .ref l0)]) (st2 := [.int (Int32.ofInt 1), .ref l0]) rfl <| zx_call hy (as := [.ref l0, .int (Int32.ofInt 1)]) (rest := []) (ov := (fun v => some (.int v))) (fun _ => rfl) rfl rfl (Or.inl rfl) rfl rfl (Nat.le_of_ble_eq_true rfl) (Nat.le_of_ble_eq_true rfl) (fun _ e _ => z_rcvT (rfM_fail N l0 (Int32.ofInt 1) h2 _ e)) (fun _ e => zt_deep (Nat.le_of_ble_eq_true rfl) (sfM_fail N l0 (Int32.ofInt 1) h2 _ e)) e fun x15 h16 _ e => zx_retB hy rfl rfl e)
theorem rfM_readsAll (N : Nat) (l0 : Nat) (h : zH) (r : Int32 × zH) (e : fM_readsAll N l0 h = some r) : fT h l0 5 = true := by
  unfold fM_readsAll at e
  exact (cond_some e).1
/-- LyndonBenchModel.parses()Z -/
theorem mfM_parses : z_me 221 zc_221 2 [] (some .boolean) := ⟨z_me0 rfl, rfl, rfl, rfl⟩
abbrev zC_221_2 : List zE := [(2, .iload_n 1, 1, 0, 0), (3, .sipush 451, 3, 0, 0), (6, .if_icmp .ge 16, 3, 22, 0), (9, .aload_n 0, 1, 0, 0), (10, .getfield 7, 3, 5, 0), (13, .iload_n 1, 1, 0, 0), (14, .iconst 0, 1, 0, 0), (15, .iastore, 1, 0, 0), (16, .iinc 1 1, 3, 0, 0), (19, .goto (-17), 3, 2, 0), (22, .aload_n 0, 1, 0, 0), (23, .iconst 0, 1, 0, 0), (24, .putfield 167, 3, 5, 12), (27, .aload_n 0, 1, 0, 0), (28, .iconst (-1), 1, 0, 0), (29, .putfield 34, 3, 5, 13), (32, .aload_n 0, 1, 0, 0), (33, .iconst 0, 1, 0, 0), (34, .putfield 266, 3, 5, 22), (37, .aload_n 0, 1, 0, 0), (38, .iconst 0, 1, 0, 0), (39, .putfield 152, 3, 5, 20), (42, .aload_n 0, 1, 0, 0), (43, .invokevirtual 177, 3, 197, 0), (46, .aload_n 0, 1, 0, 0), (47, .invokevirtual 307, 3, 220, 0), (50, .ireturn, 1, 0, 0)]
theorem mfM_parses_2 : z_me 221 zC_221_2 2 [] (some .boolean) := ⟨z_me1 (cd := zc_221) rfl (by decide +kernel), rfl, rfl, rfl⟩
abbrev zC_221_m : List zE := [(0, .iconst 0, 1, 0, 0), (1, .istore_n 1, 1, 0, 0)]
theorem mfM_parses_m : z_me 221 zC_221_m 2 [] (some .boolean) := ⟨z_me1 (cd := zc_221) rfl (by decide +kernel), rfl, rfl, rfl⟩
def fM_parses_2 (N : Nat) : Nat → Nat → Int32 → zH → Option (Int32 × zH)
  | 0, _, _, _ => none
  | n + 1, l0, l1, h => cond (z_cmp .ge l1 (Int32.ofInt 451)) (b1 (fS h l0 5 12 (.int (Int32.ofInt 0))) fun h1 => b1 (fS h1 l0 5 13 (.int (Int32.ofInt (-1)))) fun h2 => b1 (fS h2 l0 5 22 (.int (Int32.ofInt 0))) fun h3 => b1 (fS h3 l0 5 20 (.int (Int32.ofInt 0))) fun h4 => b2 (fM_next N l0 h4) fun _ h6 => b2 (fM_readsAll N l0 h6) fun x7 h8 => cond (decide (x7 = Int32.ofInt 0) || decide (x7 = Int32.ofInt 1)) (some (x7, h8)) none) (b1 (fR h l0 5 0) fun x9 => b1 (fAS h x9 100 l1 (.int (Int32.ofInt 0))) fun h10 => fM_parses_2 N n  l0 (l1 + Int32.ofInt 1) h10)
theorem sfM_parses_2 {xs : List Int32} (N : Nat)   : ∀ (n : Nat) (l0 : Nat) (l1 : Int32) (h : zH) (r : Int32 × zH), fM_parses_2 N n  l0 l1 h = some r → zt xs (66) 221 2 [(0, .ref l0), (1, .int l1)] [] h 0 0 (zQ cI r) := by
  have hy := mfM_parses_2
  intro n
  induction n with
  | zero =>
    intro l0 l1 h r e
    rw [fM_parses_2] at e
    cases e
  | succ n ih =>
    intro l0 l1 h r e
    rw [fM_parses_2] at e
    exact zl hy 1 (pc2 := 3) (lv2 := [(0, .ref l0), (1, .int l1)]) (st2 := [.int l1]) rfl <| zx_sip hy (c := 451) rfl (by decide) <| zx_c hy rfl e (fun _ e => zl hy 2 (pc2 := 24) (lv2 := [(0, .ref l0), (1, .int l1)]) (st2 := [.int (Int32.ofInt 0), .ref l0]) rfl <| zx_pf hy rfl e (rfl) fun h1 _ e => zl hy 2 (pc2 := 29) (lv2 := [(0, .ref l0), (1, .int l1)]) (st2 := [.int (Int32.ofInt (-1)), .ref l0]) rfl <| zx_pf hy rfl e (rfl) fun h2 _ e => zl hy 2 (pc2 := 34) (lv2 := [(0, .ref l0), (1, .int l1)]) (st2 := [.int (Int32.ofInt 0), .ref l0]) rfl <| zx_pf hy rfl e (rfl) fun h3 _ e => zl hy 2 (pc2 := 39) (lv2 := [(0, .ref l0), (1, .int l1)]) (st2 := [.int (Int32.ofInt 0), .ref l0]) rfl <| zx_pf hy rfl e (rfl) fun h4 _ e => zl hy 1 (pc2 := 43) (lv2 := [(0, .ref l0), (1, .int l1)]) (st2 := [.ref l0]) rfl <| zx_call hy (as := [.ref l0]) (rest := []) (ov := (fun _ => none)) (fun _ => rfl) rfl rfl (Or.inl rfl) rfl rfl (Nat.le_of_ble_eq_true rfl) (Nat.le_of_ble_eq_true rfl) (fun _ e _ => z_rcvT (rfM_next N l0 h4 _ e)) (fun _ e => zt_deep (Nat.le_of_ble_eq_true rfl) (sfM_next N l0 h4 _ e)) e fun _ h6 _ e => zl hy 1 (pc2 := 47) (lv2 := [(0, .ref l0), (1, .int l1)]) (st2 := [.ref l0]) rfl <| zx_call hy (as := [.ref l0]) (rest := []) (ov := (fun v => some (.int v))) (fun _ => rfl) rfl rfl (Or.inl rfl) rfl rfl (Nat.le_of_ble_eq_true rfl) (Nat.le_of_ble_eq_true rfl) (fun _ e _ => z_rcvT (rfM_readsAll N l0 h6 _ e)) (fun _ e => zt_deep (Nat.le_of_ble_eq_true rfl) (sfM_readsAll N l0 h6 _ e)) e fun x7 h8 _ e => zx_retB hy rfl rfl e) (fun _ e => zl hy 1 (pc2 := 10) (lv2 := [(0, .ref l0), (1, .int l1)]) (st2 := [.ref l0]) rfl <| zx_gR hy rfl e fun x9 _ e => zl hy 2 (pc2 := 15) (lv2 := [(0, .ref l0), (1, .int l1)]) (st2 := [.int (Int32.ofInt 0), .int l1, .ref x9]) rfl <| zx_sI hy (j := .iastore) (Or.inl ⟨rfl, rfl, rfl⟩) rfl e fun h10 _ e => zl hy 2 (pc2 := 2) (lv2 := [(1, .int (l1 + Int32.ofInt 1)), (0, .ref l0)]) (st2 := []) rfl <| zt_sub (z_fc rfl (z_fc rfl (z_fn))) <| ih l0 (l1 + Int32.ofInt 1) h10 _ e)
def fM_parses (N : Nat) (l0 : Nat) (h : zH) : Option (Int32 × zH) := cond (fT h l0 5) (fM_parses_2 N N  l0 (Int32.ofInt 0) h) none
theorem sfM_parses {xs : List Int32} (N : Nat) (l0 : Nat) (h : zH) (r : Int32 × zH) (e : fM_parses N l0 h = some r) : zt xs (66) 221 0 [(0, .ref l0)] [] h 0 0 (zQ cI r) := by
  have hy := mfM_parses_m
  unfold fM_parses at e
  replace e := (cond_some e).2
  exact zl hy 2 (pc2 := 2) (lv2 := [(1, .int (Int32.ofInt 0)), (0, .ref l0)]) (st2 := []) rfl <| zt_sub (z_fc rfl (z_fc rfl (z_fn))) <| sfM_parses_2 N   N l0 (Int32.ofInt 0) h _ e
theorem rfM_parses (N : Nat) (l0 : Nat) (h : zH) (r : Int32 × zH) (e : fM_parses N l0 h = some r) : fT h l0 5 = true := by
  unfold fM_parses at e
  exact (cond_some e).1
/-- LyndonBenchModel.type(I)V -/
theorem mfM_type : z_me 223 zc_223 3 [] none := ⟨z_me0 rfl, rfl, rfl, rfl⟩
abbrev zC_223_3 : List zE := [(3, .iload_n 2, 1, 0, 0), (4, .ifCond .lt 35, 3, 39, 0), (7, .aload_n 0, 1, 0, 0), (8, .getfield 22, 3, 5, 6), (11, .aload_n 0, 1, 0, 0), (12, .getfield 310, 3, 5, 10), (15, .iload_n 1, 1, 0, 0), (16, .iload_n 2, 1, 0, 0), (17, .ishr, 1, 0, 0), (18, .sipush 255, 3, 0, 0), (21, .iand, 1, 0, 0), (22, .iastore, 1, 0, 0), (23, .aload_n 0, 1, 0, 0), (24, .dup, 1, 0, 0), (25, .getfield 310, 3, 5, 10), (28, .iconst 1, 1, 0, 0), (29, .iadd, 1, 0, 0), (30, .putfield 310, 3, 5, 10), (33, .iinc 2 (-8), 3, 0, 0), (36, .goto (-33), 3, 3, 0), (39, .return_, 1, 0, 0)]
theorem mfM_type_3 : z_me 223 zC_223_3 3 [] none := ⟨z_me1 (cd := zc_223) rfl (by decide +kernel), rfl, rfl, rfl⟩
abbrev zC_223_m : List zE := [(0, .bipush 24, 2, 0, 0), (2, .istore_n 2, 1, 0, 0)]
theorem mfM_type_m : z_me 223 zC_223_m 3 [] none := ⟨z_me1 (cd := zc_223) rfl (by decide +kernel), rfl, rfl, rfl⟩
def fM_type_3 (N : Nat) : Nat → Nat → Int32 → Int32 → zH → Option (Unit × zH)
  | 0, _, _, _, _ => none
  | n + 1, l0, l1, l2, h => cond (z_cmp .lt l2 (Int32.ofInt 0)) (some ((), h)) (b1 (fR h l0 5 6) fun x1 => b1 (fI h l0 5 10) fun x2 => b1 (fAS h x1 100 x2 (.int ((l1 >>> (l2 &&& 31)) &&& (Int32.ofInt 255)))) fun h3 => b1 (fI h3 l0 5 10) fun x4 => b1 (fS h3 l0 5 10 (.int (x4 + (Int32.ofInt 1)))) fun h5 => fM_type_3 N n  l0 l1 (l2 + Int32.ofInt (-8)) h5)
theorem sfM_type_3 {xs : List Int32} (N : Nat)   : ∀ (n : Nat) (l0 : Nat) (l1 : Int32) (l2 : Int32) (h : zH) (r : Unit × zH), fM_type_3 N n  l0 l1 l2 h = some r → zt xs (1) 223 3 [(0, .ref l0), (1, .int l1), (2, .int l2)] [] h 0 0 (zQ cV r) := by
  have hy := mfM_type_3
  intro n
  induction n with
  | zero =>
    intro l0 l1 l2 h r e
    rw [fM_type_3] at e
    cases e
  | succ n ih =>
    intro l0 l1 l2 h r e
    rw [fM_type_3] at e
    exact zl hy 1 (pc2 := 4) (lv2 := [(0, .ref l0), (1, .int l1), (2, .int l2)]) (st2 := [.int l2]) rfl <| zx_c0 hy rfl e (fun _ e => zx_retV hy rfl rfl e) (fun _ e => zl hy 1 (pc2 := 8) (lv2 := [(0, .ref l0), (1, .int l1), (2, .int l2)]) (st2 := [.ref l0]) rfl <| zx_gR hy rfl e fun x1 _ e => zl hy 1 (pc2 := 12) (lv2 := [(0, .ref l0), (1, .int l1), (2, .int l2)]) (st2 := [.ref l0, .ref x1]) rfl <| zx_gI hy rfl e fun x2 _ e => zl hy 3 (pc2 := 18) (lv2 := [(0, .ref l0), (1, .int l1), (2, .int l2)]) (st2 := [.int (l1 >>> (l2 &&& 31)), .int x2, .ref x1]) rfl <| zx_sip hy (c := 255) rfl (by decide) <| zl hy 1 (pc2 := 22) (lv2 := [(0, .ref l0), (1, .int l1), (2, .int l2)]) (st2 := [.int ((l1 >>> (l2 &&& 31)) &&& (Int32.ofInt 255)), .int x2, .ref x1]) rfl <| zx_sI hy (j := .iastore) (Or.inl ⟨rfl, rfl, rfl⟩) rfl e fun h3 _ e => zl hy 2 (pc2 := 25) (lv2 := [(0, .ref l0), (1, .int l1), (2, .int l2)]) (st2 := [.ref l0, .ref l0]) rfl <| zx_gI hy rfl e fun x4 _ e => zl hy 2 (pc2 := 30) (lv2 := [(0, .ref l0), (1, .int l1), (2, .int l2)]) (st2 := [.int (x4 + (Int32.ofInt 1)), .ref l0]) rfl <| zx_pf hy rfl e (rfl) fun h5 _ e => zl hy 2 (pc2 := 3) (lv2 := [(2, .int (l2 + Int32.ofInt (-8))), (0, .ref l0), (1, .int l1)]) (st2 := []) rfl <| zt_sub (z_fc rfl (z_fc rfl (z_fc rfl (z_fn)))) <| ih l0 l1 (l2 + Int32.ofInt (-8)) h5 _ e)
def fM_type (N : Nat) (l0 : Nat) (l1 : Int32) (h : zH) : Option (Unit × zH) := cond (fT h l0 5) (fM_type_3 N N  l0 l1 (Int32.ofInt 24) h) none
theorem sfM_type {xs : List Int32} (N : Nat) (l0 : Nat) (l1 : Int32) (h : zH) (r : Unit × zH) (e : fM_type N l0 l1 h = some r) : zt xs (1) 223 0 [(0, .ref l0), (1, .int l1)] [] h 0 0 (zQ cV r) := by
  have hy := mfM_type_m
  unfold fM_type at e
  replace e := (cond_some e).2
  exact zx_bip hy (c := 24) rfl (by decide) <| zl hy 1 (pc2 := 3) (lv2 := [(2, .int (Int32.ofInt 24)), (0, .ref l0), (1, .int l1)]) (st2 := []) rfl <| zt_sub (z_fc rfl (z_fc rfl (z_fc rfl (z_fn)))) <| sfM_type_3 N   N l0 l1 (Int32.ofInt 24) h _ e
theorem rfM_type (N : Nat) (l0 : Nat) (l1 : Int32) (h : zH) (r : Unit × zH) (e : fM_type N l0 l1 h = some r) : fT h l0 5 = true := by
  unfold fM_type at e
  exact (cond_some e).1
/-- LyndonBenchModel.append(IIIII)I -/
theorem mfM_append : z_me 222 zc_222 6 [] (some .int) := ⟨z_me0 rfl, rfl, rfl, rfl⟩
abbrev zC_222_m : List zE := [(0, .aload_n 0, 1, 0, 0), (1, .iconst 0, 1, 0, 0), (2, .putfield 55, 3, 5, 17), (5, .aload_n 0, 1, 0, 0), (6, .getfield 310, 3, 5, 10), (9, .bipush 20, 2, 0, 0), (11, .iadd, 1, 0, 0), (12, .sipush 600, 3, 0, 0), (15, .if_icmp .le 5, 3, 20, 0), (18, .iconst (-1), 1, 0, 0), (19, .ireturn, 1, 0, 0), (20, .aload_n 0, 1, 0, 0), (21, .iload_n 1, 1, 0, 0), (22, .invokevirtual 313, 3, 223, 1), (25, .aload_n 0, 1, 0, 0), (26, .iload_n 2, 1, 0, 0), (27, .invokevirtual 313, 3, 223, 1), (30, .aload_n 0, 1, 0, 0), (31, .iload_n 3, 1, 0, 0), (32, .invokevirtual 313, 3, 223, 1), (35, .aload_n 0, 1, 0, 0), (36, .iload 4, 2, 0, 0), (38, .invokevirtual 313, 3, 223, 1), (41, .aload_n 0, 1, 0, 0), (42, .iload 5, 2, 0, 0), (44, .invokevirtual 313, 3, 223, 1), (47, .aload_n 0, 1, 0, 0), (48, .getfield 310, 3, 5, 10), (51, .ireturn, 1, 0, 0)]
theorem mfM_append_m : z_me 222 zC_222_m 6 [] (some .int) := ⟨z_me1 (cd := zc_222) rfl (by decide +kernel), rfl, rfl, rfl⟩
def fM_append (N : Nat) (l0 : Nat) (l1 : Int32) (l2 : Int32) (l3 : Int32) (l4 : Int32) (l5 : Int32) (h : zH) : Option (Int32 × zH) := cond (fT h l0 5) (b1 (fS h l0 5 17 (.int (Int32.ofInt 0))) fun h1 => b1 (fI h1 l0 5 10) fun x2 => cond (z_cmp .le (x2 + (Int32.ofInt 20)) (Int32.ofInt 600)) (b2 (fM_type N l0 l1 h1) fun _ h4 => b2 (fM_type N l0 l2 h4) fun _ h6 => b2 (fM_type N l0 l3 h6) fun _ h8 => b2 (fM_type N l0 l4 h8) fun _ h10 => b2 (fM_type N l0 l5 h10) fun _ h12 => b1 (fI h12 l0 5 10) fun x13 => some (x13, h12)) (some ((Int32.ofInt (-1)), h1))) none
theorem sfM_append {xs : List Int32} (N : Nat) (l0 : Nat) (l1 : Int32) (l2 : Int32) (l3 : Int32) (l4 : Int32) (l5 : Int32) (h : zH) (r : Int32 × zH) (e : fM_append N l0 l1 l2 l3 l4 l5 h = some r) : zt xs (2) 222 0 [(0, .ref l0), (1, .int l1), (2, .int l2), (3, .int l3), (4, .int l4), (5, .int l5)] [] h 0 0 (zQ cI r) := by
  have hy := mfM_append_m
  unfold fM_append at e
  replace e := (cond_some e).2
  exact zl hy 2 (pc2 := 2) (lv2 := [(0, .ref l0), (1, .int l1), (2, .int l2), (3, .int l3), (4, .int l4), (5, .int l5)]) (st2 := [.int (Int32.ofInt 0), .ref l0]) rfl <| zx_pf hy rfl e (rfl) fun h1 _ e => zl hy 1 (pc2 := 6) (lv2 := [(0, .ref l0), (1, .int l1), (2, .int l2), (3, .int l3), (4, .int l4), (5, .int l5)]) (st2 := [.ref l0]) rfl <| zx_gI hy rfl e fun x2 _ e => zx_bip hy (c := 20) rfl (by decide) <| zl hy 1 (pc2 := 12) (lv2 := [(0, .ref l0), (1, .int l1), (2, .int l2), (3, .int l3), (4, .int l4), (5, .int l5)]) (st2 := [.int (x2 + (Int32.ofInt 20))]) rfl <| zx_sip hy (c := 600) rfl (by decide) <| zx_c hy rfl e (fun _ e => zl hy 2 (pc2 := 22) (lv2 := [(0, .ref l0), (1, .int l1), (2, .int l2), (3, .int l3), (4, .int l4), (5, .int l5)]) (st2 := [.int l1, .ref l0]) rfl <| zx_call hy (as := [.ref l0, .int l1]) (rest := []) (ov := (fun _ => none)) (fun _ => rfl) rfl rfl (Or.inl rfl) rfl rfl (Nat.le_of_ble_eq_true rfl) (Nat.le_of_ble_eq_true rfl) (fun _ e _ => z_rcvT (rfM_type N l0 l1 h1 _ e)) (fun _ e => zt_deep (Nat.le_of_ble_eq_true rfl) (sfM_type N l0 l1 h1 _ e)) e fun _ h4 _ e => zl hy 2 (pc2 := 27) (lv2 := [(0, .ref l0), (1, .int l1), (2, .int l2), (3, .int l3), (4, .int l4), (5, .int l5)]) (st2 := [.int l2, .ref l0]) rfl <| zx_call hy (as := [.ref l0, .int l2]) (rest := []) (ov := (fun _ => none)) (fun _ => rfl) rfl rfl (Or.inl rfl) rfl rfl (Nat.le_of_ble_eq_true rfl) (Nat.le_of_ble_eq_true rfl) (fun _ e _ => z_rcvT (rfM_type N l0 l2 h4 _ e)) (fun _ e => zt_deep (Nat.le_of_ble_eq_true rfl) (sfM_type N l0 l2 h4 _ e)) e fun _ h6 _ e => zl hy 2 (pc2 := 32) (lv2 := [(0, .ref l0), (1, .int l1), (2, .int l2), (3, .int l3), (4, .int l4), (5, .int l5)]) (st2 := [.int l3, .ref l0]) rfl <| zx_call hy (as := [.ref l0, .int l3]) (rest := []) (ov := (fun _ => none)) (fun _ => rfl) rfl rfl (Or.inl rfl) rfl rfl (Nat.le_of_ble_eq_true rfl) (Nat.le_of_ble_eq_true rfl) (fun _ e _ => z_rcvT (rfM_type N l0 l3 h6 _ e)) (fun _ e => zt_deep (Nat.le_of_ble_eq_true rfl) (sfM_type N l0 l3 h6 _ e)) e fun _ h8 _ e => zl hy 2 (pc2 := 38) (lv2 := [(0, .ref l0), (1, .int l1), (2, .int l2), (3, .int l3), (4, .int l4), (5, .int l5)]) (st2 := [.int l4, .ref l0]) rfl <| zx_call hy (as := [.ref l0, .int l4]) (rest := []) (ov := (fun _ => none)) (fun _ => rfl) rfl rfl (Or.inl rfl) rfl rfl (Nat.le_of_ble_eq_true rfl) (Nat.le_of_ble_eq_true rfl) (fun _ e _ => z_rcvT (rfM_type N l0 l4 h8 _ e)) (fun _ e => zt_deep (Nat.le_of_ble_eq_true rfl) (sfM_type N l0 l4 h8 _ e)) e fun _ h10 _ e => zl hy 2 (pc2 := 44) (lv2 := [(0, .ref l0), (1, .int l1), (2, .int l2), (3, .int l3), (4, .int l4), (5, .int l5)]) (st2 := [.int l5, .ref l0]) rfl <| zx_call hy (as := [.ref l0, .int l5]) (rest := []) (ov := (fun _ => none)) (fun _ => rfl) rfl rfl (Or.inl rfl) rfl rfl (Nat.le_of_ble_eq_true rfl) (Nat.le_of_ble_eq_true rfl) (fun _ e _ => z_rcvT (rfM_type N l0 l5 h10 _ e)) (fun _ e => zt_deep (Nat.le_of_ble_eq_true rfl) (sfM_type N l0 l5 h10 _ e)) e fun _ h12 _ e => zl hy 1 (pc2 := 48) (lv2 := [(0, .ref l0), (1, .int l1), (2, .int l2), (3, .int l3), (4, .int l4), (5, .int l5)]) (st2 := [.ref l0]) rfl <| zx_gI hy rfl e fun x13 _ e => zx_ret hy rfl rfl rfl rfl e) (fun _ e => zl hy 1 (pc2 := 19) (lv2 := [(0, .ref l0), (1, .int l1), (2, .int l2), (3, .int l3), (4, .int l4), (5, .int l5)]) (st2 := [.int (Int32.ofInt (-1))]) rfl <| zx_ret hy rfl rfl rfl rfl e)
theorem rfM_append (N : Nat) (l0 : Nat) (l1 : Int32) (l2 : Int32) (l3 : Int32) (l4 : Int32) (l5 : Int32) (h : zH) (r : Int32 × zH) (e : fM_append N l0 l1 l2 l3 l4 l5 h = some r) : fT h l0 5 = true := by
  unfold fM_append at e
  exact (cond_some e).1
/-- LyndonBenchModel.truncateInput(I)I -/
theorem mfM_truncateInput : z_me 224 zc_224 2 [] (some .int) := ⟨z_me0 rfl, rfl, rfl, rfl⟩
def fM_truncateInput_18 (N : Nat)  (l0 : Nat) (l1 : Int32) (s0 : Int32) (s1 : Nat) (h : zH) : Option (Int32 × zH) := b2 (fM_throwsOne N s1 s0 h) fun x4 h5 => cond (z_cmp .eq x4 (Int32.ofInt 0)) (b1 (fS h5 l0 5 10 (.int l1)) fun h6 => some (l1, h6)) (some ((Int32.ofInt 0), h5))
theorem sfM_truncateInput_18 {xs : List Int32} (N : Nat)   (l0 : Nat) (l1 : Int32) (s0 : Int32) (s1 : Nat) (h : zH) (r : Int32 × zH) (e : fM_truncateInput_18 N  l0 l1 s0 s1 h = some r) : zt xs (2) 224 18 [(0, .ref l0), (1, .int l1)] [.int s0, .ref s1] h 0 0 (zQ cI r) := by
  have hy := mfM_truncateInput
  unfold fM_truncateInput_18 at e
  exact zx_call hy (as := [.ref s1, .int s0]) (rest := []) (ov := (fun v => some (.int v))) (fun _ => rfl) rfl rfl (Or.inl rfl) rfl rfl (Nat.le_of_ble_eq_true rfl) (Nat.le_of_ble_eq_true rfl) (fun _ e _ => z_rcvT (rfM_throwsOne N s1 s0 h _ e)) (fun _ e => zt_deep (Nat.le_of_ble_eq_true rfl) (sfM_throwsOne N s1 s0 h _ e)) e fun x4 h5 _ e => zx_c0 hy rfl e (fun _ e => zl hy 2 (pc2 := 28) (lv2 := [(0, .ref l0), (1, .int l1)]) (st2 := [.int l1, .ref l0]) rfl <| zx_pf hy rfl e (rfl) fun h6 _ e => zl hy 1 (pc2 := 32) (lv2 := [(0, .ref l0), (1, .int l1)]) (st2 := [.int l1]) rfl <| zx_ret hy rfl rfl rfl rfl e) (fun _ e => zl hy 1 (pc2 := 25) (lv2 := [(0, .ref l0), (1, .int l1)]) (st2 := [.int (Int32.ofInt 0)]) rfl <| zx_ret hy rfl rfl rfl rfl e)
def fM_truncateInput (N : Nat) (l0 : Nat) (l1 : Int32) (h : zH) : Option (Int32 × zH) := cond (fT h l0 5) (b1 (fI h l0 5 10) fun x1 => b2 (fM_in N l1 (Int32.ofInt 0) x1 h) fun x2 h3 => cond (z_cmp .ne x2 (Int32.ofInt 0)) (fM_truncateInput_18 N  l0 l1 (Int32.ofInt 0) l0 h3) (fM_truncateInput_18 N  l0 l1 (Int32.ofInt 1) l0 h3)) none
theorem sfM_truncateInput {xs : List Int32} (N : Nat) (l0 : Nat) (l1 : Int32) (h : zH) (r : Int32 × zH) (e : fM_truncateInput N l0 l1 h = some r) : zt xs (2) 224 0 [(0, .ref l0), (1, .int l1)] [] h 0 0 (zQ cI r) := by
  have hy := mfM_truncateInput
  unfold fM_truncateInput at e
  replace e := (cond_some e).2
  exact zl hy 4 (pc2 := 4) (lv2 := [(0, .ref l0), (1, .int l1)]) (st2 := [.ref l0, .int (Int32.ofInt 0), .int l1, .ref l0]) rfl <| zx_gI hy rfl e fun x1 _ e => zx_call hy (as := [.int l1, .int (Int32.ofInt 0), .int x1]) (rest := [.ref l0]) (ov := (fun v => some (.int v))) (fun _ => rfl) rfl rfl (Or.inr (Or.inl rfl)) rfl rfl (Nat.le_of_ble_eq_true rfl) (Nat.le_of_ble_eq_true rfl) (fun _ _ hz => absurd rfl hz) (fun _ e => zt_deep (Nat.le_of_ble_eq_true rfl) (sfM_in N l1 (Int32.ofInt 0) x1 h _ e)) e fun x2 h3 _ e => zx_c0 hy rfl e (fun _ e => zl hy 1 (pc2 := 18) (lv2 := [(0, .ref l0), (1, .int l1)]) (st2 := [.int (Int32.ofInt 0), .ref l0]) rfl <| zt_sub (z_fc rfl (z_fc rfl (z_fn))) <| sfM_truncateInput_18 N   l0 l1 (Int32.ofInt 0) l0 h3 _ e) (fun _ e => zl hy 2 (pc2 := 18) (lv2 := [(0, .ref l0), (1, .int l1)]) (st2 := [.int (Int32.ofInt 1), .ref l0]) rfl <| zt_sub (z_fc rfl (z_fc rfl (z_fn))) <| sfM_truncateInput_18 N   l0 l1 (Int32.ofInt 1) l0 h3 _ e)
theorem rfM_truncateInput (N : Nat) (l0 : Nat) (l1 : Int32) (h : zH) (r : Int32 × zH) (e : fM_truncateInput N l0 l1 h = some r) : fT h l0 5 = true := by
  unfold fM_truncateInput at e
  exact (cond_some e).1
end
