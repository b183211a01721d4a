/-! F functions, by program. -/
/-- LyndonBenchModel.hasNext(I)Z -/
theorem mfM_hasNext : z_me 184 zc_184 2 [] (some .boolean) := ⟨z_me0 rfl, rfl, rfl, rfl⟩
def fM_hasNext_17 (N : Nat)   (h : zH) : Option (Int32 × zH) := some ((Int32.ofInt 0), h)
theorem sfM_hasNext_17 {xs : List Int32} (N : Nat)    (h : zH) (r : Int32 × zH) (e : fM_hasNext_17 N   h = some r) : zt xs (4) 184 17 [] [] h 0 0 (zQ cI r) := by
  have hy := mfM_hasNext
  unfold fM_hasNext_17 at e
  exact zl hy 1 (pc2 := 18) (lv2 := []) (st2 := [.int (Int32.ofInt 0)]) rfl <| zx_ret hy (v := .int (Int32.ofInt 0)) rfl rfl (by decide) rfl e
def fM_hasNext_36 (N : Nat)  (s0 : Int32) (h : zH) : Option (Int32 × zH) := cond (decide (s0 = Int32.ofInt 0) || decide (s0 = Int32.ofInt 1)) (some (s0, h)) none
theorem sfM_hasNext_36 {xs : List Int32} (N : Nat)   (s0 : Int32) (h : zH) (r : Int32 × zH) (e : fM_hasNext_36 N  s0 h = some r) : zt xs (4) 184 36 [] [.int s0] h 0 0 (zQ cI r) := by
  have hy := mfM_hasNext
  unfold fM_hasNext_36 at e
  exact zx_retB hy rfl rfl e
def fM_hasNext (N : Nat) (l0 : Nat) (l1 : Int32) (h : zH) : Option (Int32 × zH) := cond (fT h l0 5) (b2 (fM_why N l0 h) fun x1 h2 => cond (z_cmp .ne x1 (Int32.ofInt 0)) (fM_hasNext_17 N   h2) (b1 (fR h2 l0 5 0) fun x3 => b1 (fAI h2 x3 100 (Int32.ofInt 1)) fun x4 => cond (z_cmp .le x4 l1) (b2 (fM_nexts N l0 l1 h2) fun _ h6 => b1 (fI h6 l0 5 14) fun x7 => cond (z_cmp .le x7 (Int32.ofInt 0)) (fM_hasNext_36 N  (Int32.ofInt 0) h6) (fM_hasNext_36 N  (Int32.ofInt 1) h6)) (fM_hasNext_17 N   h2))) none
theorem sfM_hasNext {xs : List Int32} (N : Nat) (l0 : Nat) (l1 : Int32) (h : zH) (r : Int32 × zH) (e : fM_hasNext N l0 l1 h = some r) : zt xs (4) 184 0 [(0, .ref l0), (1, .int l1)] [] h 0 0 (zQ cI r) := by
  have hy := mfM_hasNext
  unfold fM_hasNext at e
  replace e := (cond_some e).2
  exact zl hy 1 (pc2 := 1) (lv2 := [(0, .ref l0), (1, .int l1)]) (st2 := [.ref l0]) rfl <| zx_call hy (as := [.ref l0]) (rest := []) (ov := (fun v => some (.int v))) (fun _ => rfl) rfl rfl (Or.inl rfl) rfl rfl (Nat.le_of_ble_eq_true rfl) (Nat.le_of_ble_eq_true rfl) (fun _ e _ => z_rcvT (rfM_why N l0 h _ e)) (fun _ e => zt_deep (Nat.le_of_ble_eq_true rfl) (sfM_why N l0 h _ e)) e fun x1 h2 _ e => zx_c0 hy rfl e (fun _ e => zt_sub (z_fn) <| sfM_hasNext_17 N    h2 _ e) (fun _ e => zl hy 1 (pc2 := 8) (lv2 := [(0, .ref l0), (1, .int l1)]) (st2 := [.ref l0]) rfl <| zx_gR hy rfl e fun x3 _ e => zl hy 1 (pc2 := 12) (lv2 := [(0, .ref l0), (1, .int l1)]) (st2 := [.int (Int32.ofInt 1), .ref x3]) rfl <| zx_aI hy (j := .iaload) (Or.inl ⟨rfl, rfl⟩) rfl e fun x4 _ e => zl hy 1 (pc2 := 14) (lv2 := [(0, .ref l0), (1, .int l1)]) (st2 := [.int l1, .int x4]) rfl <| zx_c hy rfl e (fun _ e => zl hy 2 (pc2 := 21) (lv2 := [(0, .ref l0), (1, .int l1)]) (st2 := [.int l1, .ref l0]) rfl <| zx_call hy (as := [.ref l0, .int l1]) (rest := []) (ov := (fun _ => none)) (fun _ => rfl) rfl rfl (Or.inl rfl) rfl rfl (Nat.le_of_ble_eq_true rfl) (Nat.le_of_ble_eq_true rfl) (fun _ e _ => z_rcvT (rfM_nexts N l0 l1 h2 _ e)) (fun _ e => zt_deep (Nat.le_of_ble_eq_true rfl) (sfM_nexts N l0 l1 h2 _ e)) e fun _ h6 _ e => zl hy 1 (pc2 := 25) (lv2 := [(0, .ref l0), (1, .int l1)]) (st2 := [.ref l0]) rfl <| zx_gI hy rfl e fun x7 _ e => zx_c0 hy rfl e (fun _ e => zl hy 1 (pc2 := 36) (lv2 := [(0, .ref l0), (1, .int l1)]) (st2 := [.int (Int32.ofInt 0)]) rfl <| zt_sub (z_fn) <| sfM_hasNext_36 N   (Int32.ofInt 0) h6 _ e) (fun _ e => zl hy 2 (pc2 := 36) (lv2 := [(0, .ref l0), (1, .int l1)]) (st2 := [.int (Int32.ofInt 1)]) rfl <| zt_sub (z_fn) <| sfM_hasNext_36 N   (Int32.ofInt 1) h6 _ e)) (fun _ e => zt_sub (z_fn) <| sfM_hasNext_17 N    h2 _ e))
theorem rfM_hasNext (N : Nat) (l0 : Nat) (l1 : Int32) (h : zH) (r : Int32 × zH) (e : fM_hasNext N l0 l1 h = some r) : fT h l0 5 = true := by
  unfold fM_hasNext at e
  exact (cond_some e).1
/-- LyndonBenchModel.goesOn(I)I -/
theorem mfM_goesOn : z_me 185 zc_185 2 [] (some .int) := ⟨z_me0 rfl, rfl, rfl, rfl⟩
def fM_goesOn (N : Nat) (l0 : Nat) (l1 : Int32) (h : zH) : Option (Int32 × zH) := cond (fT h l0 5) (b2 (fM_nexts N l0 l1 h) fun _ h2 => b2 (fM_takes N l0 h2) fun x3 h4 => some (x3, h4)) none
theorem sfM_goesOn {xs : List Int32} (N : Nat) (l0 : Nat) (l1 : Int32) (h : zH) (r : Int32 × zH) (e : fM_goesOn N l0 l1 h = some r) : zt xs (2) 185 0 [(0, .ref l0), (1, .int l1)] [] h 0 0 (zQ cI r) := by
  have hy := mfM_goesOn
  unfold fM_goesOn at e
  replace e := (cond_some e).2
  exact zl hy 2 (pc2 := 2) (lv2 := [(0, .ref l0), (1, .int l1)]) (st2 := [.int l1, .ref l0]) rfl <| zx_call hy (as := [.ref l0, .int l1]) (rest := []) (ov := (fun _ => none)) (fun _ => rfl) rfl rfl (Or.inl rfl) rfl rfl (Nat.le_of_ble_eq_true rfl) (Nat.le_of_ble_eq_true rfl) (fun _ e _ => z_rcvT (rfM_nexts N l0 l1 h _ e)) (fun _ e => zt_deep (Nat.le_of_ble_eq_true rfl) (sfM_nexts N l0 l1 h _ e)) e fun _ h2 _ e => zl hy 1 (pc2 := 6) (lv2 := [(0, .ref l0), (1, .int l1)]) (st2 := [.ref l0]) rfl <| zx_call hy (as := [.ref l0]) (rest := []) (ov := (fun v => some (.int v))) (fun _ => rfl) rfl rfl (Or.inl rfl) rfl rfl (Nat.le_of_ble_eq_true rfl) (Nat.le_of_ble_eq_true rfl) (fun _ e _ => z_rcvT (rfM_takes N l0 h2 _ e)) (fun _ e => zt_deep (Nat.le_of_ble_eq_true rfl) (sfM_takes N l0 h2 _ e)) e fun x3 h4 _ e => zx_ret hy rfl rfl rfl rfl e
theorem rfM_goesOn (N : Nat) (l0 : Nat) (l1 : Int32) (h : zH) (r : Int32 × zH) (e : fM_goesOn N l0 l1 h = some r) : fT h l0 5 = true := by
  unfold fM_goesOn at e
  exact (cond_some e).1
/-- LyndonBenchModel.shelves(II)I -/
theorem mfM_shelves : z_me 186 zc_186 5 [] (some .int) := ⟨z_me0 rfl, rfl, rfl, rfl⟩
def fM_shelves_32 (N : Nat) : Nat → Nat → Int32 → Int32 → Int32 → Int32 → zH → Option (Int32 × zH)
  | 0, _, _, _, _, _, _ => none
  | n + 1, l0, l1, l2, l3, l4, h => cond (z_cmp .ge l4 l2) (b1 (fR h l0 5 0) fun x7 => b1 (fAI h x7 100 (Int32.ofInt 2)) fun x8 => b1 (fAS h x7 100 (Int32.ofInt 2) (.int (x8 + (Int32.ofInt 1)))) fun h9 => b1 (fR h9 l0 5 0) fun x10 => b1 (fAI h9 x10 100 (Int32.ofInt 2)) fun x11 => some (x11, h9)) (b1 (fR h l0 5 0) fun x12 => b1 (fR h l0 5 0) fun x13 => b1 (fAI h x13 100 (((Int32.ofInt 3) + l1) + l4)) fun x14 => b1 (fAS h x12 100 (l3 + l4) (.int x14)) fun h15 => fM_shelves_32 N n  l0 l1 l2 l3 (l4 + Int32.ofInt 1) h15)
theorem sfM_shelves_32 {xs : List Int32} (N : Nat)   : ∀ (n : Nat) (l0 : Nat) (l1 : Int32) (l2 : Int32) (l3 : Int32) (l4 : Int32) (h : zH) (r : Int32 × zH), fM_shelves_32 N n  l0 l1 l2 l3 l4 h = some r → zt xs (1) 186 32 [(0, .ref l0), (1, .int l1), (2, .int l2), (3, .int l3), (4, .int l4)] [] h 0 0 (zQ cI r) := by
  have hy := mfM_shelves
  intro n
  induction n with
  | zero =>
    intro l0 l1 l2 l3 l4 h r e
    rw [fM_shelves_32] at e
    cases e
  | succ n ih =>
    intro l0 l1 l2 l3 l4 h r e
    rw [fM_shelves_32] at e
    exact zl hy 2 (pc2 := 35) (lv2 := [(0, .ref l0), (1, .int l1), (2, .int l2), (3, .int l3), (4, .int l4)]) (st2 := [.int l2, .int l4]) rfl <| zx_c hy rfl e (fun _ e => zl hy 1 (pc2 := 65) (lv2 := [(0, .ref l0), (1, .int l1), (2, .int l2), (3, .int l3), (4, .int l4)]) (st2 := [.ref l0]) rfl <| zx_gR hy rfl e fun x7 _ e => zl hy 2 (pc2 := 70) (lv2 := [(0, .ref l0), (1, .int l1), (2, .int l2), (3, .int l3), (4, .int l4)]) (st2 := [.int (Int32.ofInt 2), .ref x7, .int (Int32.ofInt 2), .ref x7]) rfl <| zx_aI hy (j := .iaload) (Or.inl ⟨rfl, rfl⟩) rfl e fun x8 _ e => zl hy 2 (pc2 := 73) (lv2 := [(0, .ref l0), (1, .int l1), (2, .int l2), (3, .int l3), (4, .int l4)]) (st2 := [.int (x8 + (Int32.ofInt 1)), .int (Int32.ofInt 2), .ref x7]) rfl <| zx_sI hy (j := .iastore) (Or.inl ⟨rfl, rfl, rfl⟩) rfl e fun h9 _ e => zl hy 1 (pc2 := 75) (lv2 := [(0, .ref l0), (1, .int l1), (2, .int l2), (3, .int l3), (4, .int l4)]) (st2 := [.ref l0]) rfl <| zx_gR hy rfl e fun x10 _ e => zl hy 1 (pc2 := 79) (lv2 := [(0, .ref l0), (1, .int l1), (2, .int l2), (3, .int l3), (4, .int l4)]) (st2 := [.int (Int32.ofInt 2), .ref x10]) rfl <| zx_aI hy (j := .iaload) (Or.inl ⟨rfl, rfl⟩) rfl e fun x11 _ e => zx_ret hy rfl rfl rfl rfl e) (fun _ e => zl hy 1 (pc2 := 39) (lv2 := [(0, .ref l0), (1, .int l1), (2, .int l2), (3, .int l3), (4, .int l4)]) (st2 := [.ref l0]) rfl <| zx_gR hy rfl e fun x12 _ e => zl hy 4 (pc2 := 47) (lv2 := [(0, .ref l0), (1, .int l1), (2, .int l2), (3, .int l3), (4, .int l4)]) (st2 := [.ref l0, .int (l3 + l4), .ref x12]) rfl <| zx_gR hy rfl e fun x13 _ e => zl hy 5 (pc2 := 56) (lv2 := [(0, .ref l0), (1, .int l1), (2, .int l2), (3, .int l3), (4, .int l4)]) (st2 := [.int (((Int32.ofInt 3) + l1) + l4), .ref x13, .int (l3 + l4), .ref x12]) rfl <| zx_aI hy (j := .iaload) (Or.inl ⟨rfl, rfl⟩) rfl e fun x14 _ e => zx_sI hy (j := .iastore) (Or.inl ⟨rfl, rfl, rfl⟩) rfl e fun h15 _ e => zl hy 2 (pc2 := 32) (lv2 := [(4, .int (l4 + Int32.ofInt 1)), (0, .ref l0), (1, .int l1), (2, .int l2), (3, .int l3)]) (st2 := []) rfl <| zt_sub (z_fc rfl (z_fc rfl (z_fc rfl (z_fc rfl (z_fc rfl (z_fn)))))) <| ih l0 l1 l2 l3 (l4 + Int32.ofInt 1) h15 _ e)
def fM_shelves (N : Nat) (l0 : Nat) (l1 : Int32) (l2 : Int32) (h : zH) : Option (Int32 × zH) := cond (fT h l0 5) (b1 (fR h l0 5 0) fun x1 => b1 (fAI h x1 100 (Int32.ofInt 2)) fun x2 => b1 (fR h l0 5 0) fun x3 => b1 (fR h l0 5 0) fun x4 => b1 (fAI h x4 100 (Int32.ofInt 2)) fun x5 => b1 (fAS h x3 100 ((Int32.ofInt 123) + x5) (.int l2)) fun h6 => fM_shelves_32 N N  l0 l1 l2 ((Int32.ofInt 131) + ((Int32.ofInt 40) * x2)) (Int32.ofInt 0) h6) none
theorem sfM_shelves {xs : List Int32} (N : Nat) (l0 : Nat) (l1 : Int32) (l2 : Int32) (h : zH) (r : Int32 × zH) (e : fM_shelves N l0 l1 l2 h = some r) : zt xs (1) 186 0 [(0, .ref l0), (1, .int l1), (2, .int l2)] [] h 0 0 (zQ cI r) := by
  have hy := mfM_shelves
  unfold fM_shelves at e
  replace e := (cond_some e).2
  exact zx_sip hy (c := 131) rfl (by decide) <| zx_bip hy (c := 40) rfl (by decide) <| zl hy 1 (pc2 := 6) (lv2 := [(0, .ref l0), (1, .int l1), (2, .int l2)]) (st2 := [.ref l0, .int (Int32.ofInt 40), .int (Int32.ofInt 131)]) rfl <| zx_gR hy rfl e fun x1 _ e => zl hy 1 (pc2 := 10) (lv2 := [(0, .ref l0), (1, .int l1), (2, .int l2)]) (st2 := [.int (Int32.ofInt 2), .ref x1, .int (Int32.ofInt 40), .int (Int32.ofInt 131)]) rfl <| zx_aI hy (j := .iaload) (Or.inl ⟨rfl, rfl⟩) rfl e fun x2 _ e => zl hy 4 (pc2 := 15) (lv2 := [(3, .int ((Int32.ofInt 131) + ((Int32.ofInt 40) * x2))), (0, .ref l0), (1, .int l1), (2, .int l2)]) (st2 := [.ref l0]) rfl <| zx_gR hy rfl e fun x3 _ e => zx_bip hy (c := 123) rfl (by decide) <| zl hy 1 (pc2 := 21) (lv2 := [(3, .int ((Int32.ofInt 131) + ((Int32.ofInt 40) * x2))), (0, .ref l0), (1, .int l1), (2, .int l2)]) (st2 := [.ref l0, .int (Int32.ofInt 123), .ref x3]) rfl <| zx_gR hy rfl e fun x4 _ e => zl hy 1 (pc2 := 25) (lv2 := [(3, .int ((Int32.ofInt 131) + ((Int32.ofInt 40) * x2))), (0, .ref l0), (1, .int l1), (2, .int l2)]) (st2 := [.int (Int32.ofInt 2), .ref x4, .int (Int32.ofInt 123), .ref x3]) rfl <| zx_aI hy (j := .iaload) (Or.inl ⟨rfl, rfl⟩) rfl e fun x5 _ e => zl hy 2 (pc2 := 28) (lv2 := [(3, .int ((Int32.ofInt 131) + ((Int32.ofInt 40) * x2))), (0, .ref l0), (1, .int l1), (2, .int l2)]) (st2 := [.int l2, .int ((Int32.ofInt 123) + x5), .ref x3]) rfl <| zx_sI hy (j := .iastore) (Or.inl ⟨rfl, rfl, rfl⟩) rfl e fun h6 _ e => zl hy 2 (pc2 := 32) (lv2 := [(4, .int (Int32.ofInt 0)), (3, .int ((Int32.ofInt 131) + ((Int32.ofInt 40) * x2))), (0, .ref l0), (1, .int l1), (2, .int l2)]) (st2 := []) rfl <| zt_sub (z_fc rfl (z_fc rfl (z_fc rfl (z_fc rfl (z_fc rfl (z_fn)))))) <| sfM_shelves_32 N   N l0 l1 l2 ((Int32.ofInt 131) + ((Int32.ofInt 40) * x2)) (Int32.ofInt 0) h6 _ e
theorem rfM_shelves (N : Nat) (l0 : Nat) (l1 : Int32) (l2 : Int32) (h : zH) (r : Int32 × zH) (e : fM_shelves N l0 l1 l2 h = some r) : fT h l0 5 = true := by
  unfold fM_shelves at e
  exact (cond_some e).1
/-- LyndonBenchModel.canKeepFactor(I)Z -/
theorem mfM_canKeepFactor : z_me 187 zc_187 2 [] (some .boolean) := ⟨z_me0 rfl, rfl, rfl, rfl⟩
def fM_canKeepFactor_36 (N : Nat)  (s0 : Int32) (h : zH) : Option (Int32 × zH) := cond (decide (s0 = Int32.ofInt 0) || decide (s0 = Int32.ofInt 1)) (some (s0, h)) none
theorem sfM_canKeepFactor_36 {xs : List Int32} (N : Nat)   (s0 : Int32) (h : zH) (r : Int32 × zH) (e : fM_canKeepFactor_36 N  s0 h = some r) : zt xs (1) 187 36 [] [.int s0] h 0 0 (zQ cI r) := by
  have hy := mfM_canKeepFactor
  unfold fM_canKeepFactor_36 at e
  exact zx_retB hy rfl rfl e
def fM_canKeepFactor_35 (N : Nat)   (h : zH) : Option (Int32 × zH) := fM_canKeepFactor_36 N  (Int32.ofInt 0) h
theorem sfM_canKeepFactor_35 {xs : List Int32} (N : Nat)    (h : zH) (r : Int32 × zH) (e : fM_canKeepFactor_35 N   h = some r) : zt xs (1) 187 35 [] [] h 0 0 (zQ cI r) := by
  have hy := mfM_canKeepFactor
  unfold fM_canKeepFactor_35 at e
  exact zl hy 1 (pc2 := 36) (lv2 := []) (st2 := [.int (Int32.ofInt 0)]) rfl <| zt_sub (z_fn) <| sfM_canKeepFactor_36 N   (Int32.ofInt 0) h _ e
def fM_canKeepFactor (N : Nat) (l0 : Nat) (l1 : Int32) (h : zH) : Option (Int32 × zH) := cond (fT h l0 5) (b1 (fR h l0 5 0) fun x1 => b1 (fAI h x1 100 (Int32.ofInt 2)) fun x2 => cond (z_cmp .ge x2 (Int32.ofInt 8)) (fM_canKeepFactor_35 N   h) (b1 (fR h l0 5 9) fun x3 => b1 (fAI h x3 100 (l1 + (Int32.ofInt 1))) fun x4 => b1 (fR h l0 5 9) fun x5 => b1 (fAI h x5 100 l1) fun x6 => cond (z_cmp .gt (x4 - x6) (Int32.ofInt 40)) (fM_canKeepFactor_35 N   h) (fM_canKeepFactor_36 N  (Int32.ofInt 1) h))) none
theorem sfM_canKeepFactor {xs : List Int32} (N : Nat) (l0 : Nat) (l1 : Int32) (h : zH) (r : Int32 × zH) (e : fM_canKeepFactor N l0 l1 h = some r) : zt xs (1) 187 0 [(0, .ref l0), (1, .int l1)] [] h 0 0 (zQ cI r) := by
  have hy := mfM_canKeepFactor
  unfold fM_canKeepFactor at e
  replace e := (cond_some e).2
  exact zl hy 1 (pc2 := 1) (lv2 := [(0, .ref l0), (1, .int l1)]) (st2 := [.ref l0]) rfl <| zx_gR hy rfl e fun x1 _ e => zl hy 1 (pc2 := 5) (lv2 := [(0, .ref l0), (1, .int l1)]) (st2 := [.int (Int32.ofInt 2), .ref x1]) rfl <| zx_aI hy (j := .iaload) (Or.inl ⟨rfl, rfl⟩) rfl e fun x2 _ e => zx_bip hy (c := 8) rfl (by decide) <| zx_c hy rfl e (fun _ e => zt_sub (z_fn) <| sfM_canKeepFactor_35 N    h _ e) (fun _ e => zl hy 1 (pc2 := 12) (lv2 := [(0, .ref l0), (1, .int l1)]) (st2 := [.ref l0]) rfl <| zx_gR hy rfl e fun x3 _ e => zl hy 3 (pc2 := 18) (lv2 := [(0, .ref l0), (1, .int l1)]) (st2 := [.int (l1 + (Int32.ofInt 1)), .ref x3]) rfl <| zx_aI hy (j := .iaload) (Or.inl ⟨rfl, rfl⟩) rfl e fun x4 _ e => zl hy 1 (pc2 := 20) (lv2 := [(0, .ref l0), (1, .int l1)]) (st2 := [.ref l0, .int x4]) rfl <| zx_gR hy rfl e fun x5 _ e => zl hy 1 (pc2 := 24) (lv2 := [(0, .ref l0), (1, .int l1)]) (st2 := [.int l1, .ref x5, .int x4]) rfl <| zx_aI hy (j := .iaload) (Or.inl ⟨rfl, rfl⟩) rfl e fun x6 _ e => zl hy 1 (pc2 := 26) (lv2 := [(0, .ref l0), (1, .int l1)]) (st2 := [.int (x4 - x6)]) rfl <| zx_bip hy (c := 40) rfl (by decide) <| zx_c hy rfl e (fun _ e => zt_sub (z_fn) <| sfM_canKeepFactor_35 N    h _ e) (fun _ e => zl hy 2 (pc2 := 36) (lv2 := [(0, .ref l0), (1, .int l1)]) (st2 := [.int (Int32.ofInt 1)]) rfl <| zt_sub (z_fn) <| sfM_canKeepFactor_36 N   (Int32.ofInt 1) h _ e))
theorem rfM_canKeepFactor (N : Nat) (l0 : Nat) (l1 : Int32) (h : zH) (r : Int32 × zH) (e : fM_canKeepFactor N l0 l1 h = some r) : fT h l0 5 = true := by
  unfold fM_canKeepFactor at e
  exact (cond_some e).1
/-- LyndonBenchModel.canKeepText()Z -/
theorem mfM_canKeepText : z_me 188 zc_188 1 [] (some .boolean) := ⟨z_me0 rfl, rfl, rfl, rfl⟩
def fM_canKeepText_31 (N : Nat)  (s0 : Int32) (h : zH) : Option (Int32 × zH) := cond (decide (s0 = Int32.ofInt 0) || decide (s0 = Int32.ofInt 1)) (some (s0, h)) none
theorem sfM_canKeepText_31 {xs : List Int32} (N : Nat)   (s0 : Int32) (h : zH) (r : Int32 × zH) (e : fM_canKeepText_31 N  s0 h = some r) : zt xs (2) 188 31 [] [.int s0] h 0 0 (zQ cI r) := by
  have hy := mfM_canKeepText
  unfold fM_canKeepText_31 at e
  exact zx_retB hy rfl rfl e
def fM_canKeepText_30 (N : Nat)   (h : zH) : Option (Int32 × zH) := fM_canKeepText_31 N  (Int32.ofInt 0) h
theorem sfM_canKeepText_30 {xs : List Int32} (N : Nat)    (h : zH) (r : Int32 × zH) (e : fM_canKeepText_30 N   h = some r) : zt xs (2) 188 30 [] [] h 0 0 (zQ cI r) := by
  have hy := mfM_canKeepText
  unfold fM_canKeepText_30 at e
  exact zl hy 1 (pc2 := 31) (lv2 := []) (st2 := [.int (Int32.ofInt 0)]) rfl <| zt_sub (z_fn) <| sfM_canKeepText_31 N   (Int32.ofInt 0) h _ e
def fM_canKeepText (N : Nat) (l0 : Nat) (h : zH) : Option (Int32 × zH) := cond (fT h l0 5) (b1 (fR h l0 5 0) fun x1 => b1 (fAI h x1 100 (Int32.ofInt 2)) fun x2 => cond (z_cmp .ge x2 (Int32.ofInt 8)) (fM_canKeepText_30 N   h) (b1 (fR h l0 5 0) fun x3 => b1 (fAI h x3 100 (Int32.ofInt 1)) fun x4 => b2 (fM_in N x4 (Int32.ofInt 1) (Int32.ofInt 40) h) fun x5 h6 => cond (z_cmp .eq x5 (Int32.ofInt 0)) (fM_canKeepText_30 N   h6) (fM_canKeepText_31 N  (Int32.ofInt 1) h6))) none
theorem sfM_canKeepText {xs : List Int32} (N : Nat) (l0 : Nat) (h : zH) (r : Int32 × zH) (e : fM_canKeepText N l0 h = some r) : zt xs (2) 188 0 [(0, .ref l0)] [] h 0 0 (zQ cI r) := by
  have hy := mfM_canKeepText
  unfold fM_canKeepText at e
  replace e := (cond_some e).2
  exact zl hy 1 (pc2 := 1) (lv2 := [(0, .ref l0)]) (st2 := [.ref l0]) rfl <| zx_gR hy rfl e fun x1 _ e => zl hy 1 (pc2 := 5) (lv2 := [(0, .ref l0)]) (st2 := [.int (Int32.ofInt 2), .ref x1]) rfl <| zx_aI hy (j := .iaload) (Or.inl ⟨rfl, rfl⟩) rfl e fun x2 _ e => zx_bip hy (c := 8) rfl (by decide) <| zx_c hy rfl e (fun _ e => zt_sub (z_fn) <| sfM_canKeepText_30 N    h _ e) (fun _ e => zl hy 1 (pc2 := 12) (lv2 := [(0, .ref l0)]) (st2 := [.ref l0]) rfl <| zx_gR hy rfl e fun x3 _ e => zl hy 1 (pc2 := 16) (lv2 := [(0, .ref l0)]) (st2 := [.int (Int32.ofInt 1), .ref x3]) rfl <| zx_aI hy (j := .iaload) (Or.inl ⟨rfl, rfl⟩) rfl e fun x4 _ e => zl hy 1 (pc2 := 18) (lv2 := [(0, .ref l0)]) (st2 := [.int (Int32.ofInt 1), .int x4]) rfl <| zx_bip hy (c := 40) rfl (by decide) <| zx_call hy (as := [.int x4, .int (Int32.ofInt 1), .int (Int32.ofInt 40)]) (rest := []) (ov := (fun v => some (.int v))) (fun _ => rfl) rfl rfl (Or.inr (Or.inl rfl)) rfl rfl (Nat.le_of_ble_eq_true rfl) (Nat.le_of_ble_eq_true rfl) (fun _ _ hz => absurd rfl hz) (fun _ e => zt_deep (Nat.le_of_ble_eq_true rfl) (sfM_in N x4 (Int32.ofInt 1) (Int32.ofInt 40) h _ e)) e fun x5 h6 _ e => zx_c0 hy rfl e (fun _ e => zt_sub (z_fn) <| sfM_canKeepText_30 N    h6 _ e) (fun _ e => zl hy 2 (pc2 := 31) (lv2 := [(0, .ref l0)]) (st2 := [.int (Int32.ofInt 1)]) rfl <| zt_sub (z_fn) <| sfM_canKeepText_31 N   (Int32.ofInt 1) h6 _ e))
theorem rfM_canKeepText (N : Nat) (l0 : Nat) (h : zH) (r : Int32 × zH) (e : fM_canKeepText N l0 h = some r) : fT h l0 5 = true := by
  unfold fM_canKeepText at e
  exact (cond_some e).1
/-- LyndonBenchModel.keepsFactor(I)I -/
theorem mfM_keepsFactor : z_me 189 zc_189 2 [] (some .int) := ⟨z_me0 rfl, rfl, rfl, rfl⟩
def fM_keepsFactor (N : Nat) (l0 : Nat) (l1 : Int32) (h : zH) : Option (Int32 × zH) := cond (fT h l0 5) (b2 (fM_factors N l0 h) fun x1 h2 => b1 (fR h2 l0 5 9) fun x3 => b1 (fAI h2 x3 100 l1) fun x4 => b1 (fR h2 l0 5 9) fun x5 => b1 (fAI h2 x5 100 (l1 + (Int32.ofInt 1))) fun x6 => b1 (fR h2 l0 5 9) fun x7 => b1 (fAI h2 x7 100 l1) fun x8 => b2 (fM_shelves N l0 x4 (x6 - x8) h2) fun x9 h10 => some (x9, h10)) none
theorem sfM_keepsFactor {xs : List Int32} (N : Nat) (l0 : Nat) (l1 : Int32) (h : zH) (r : Int32 × zH) (e : fM_keepsFactor N l0 l1 h = some r) : zt xs (4) 189 0 [(0, .ref l0), (1, .int l1)] [] h 0 0 (zQ cI r) := by
  have hy := mfM_keepsFactor
  unfold fM_keepsFactor at e
  replace e := (cond_some e).2
  exact zl hy 1 (pc2 := 1) (lv2 := [(0, .ref l0), (1, .int l1)]) (st2 := [.ref l0]) rfl <| zx_call hy (as := [.ref l0]) (rest := []) (ov := (fun v => some (.int v))) (fun _ => rfl) rfl rfl (Or.inl rfl) rfl rfl (Nat.le_of_ble_eq_true rfl) (Nat.le_of_ble_eq_true rfl) (fun _ e _ => z_rcvT (rfM_factors N l0 h _ e)) (fun _ e => zt_deep (Nat.le_of_ble_eq_true rfl) (sfM_factors N l0 h _ e)) e fun x1 h2 _ e => zl hy 3 (pc2 := 7) (lv2 := [(0, .ref l0), (1, .int l1)]) (st2 := [.ref l0, .ref l0]) rfl <| zx_gR hy rfl e fun x3 _ e => zl hy 1 (pc2 := 11) (lv2 := [(0, .ref l0), (1, .int l1)]) (st2 := [.int l1, .ref x3, .ref l0]) rfl <| zx_aI hy (j := .iaload) (Or.inl ⟨rfl, rfl⟩) rfl e fun x4 _ e => zl hy 1 (pc2 := 13) (lv2 := [(0, .ref l0), (1, .int l1)]) (st2 := [.ref l0, .int x4, .ref l0]) rfl <| zx_gR hy rfl e fun x5 _ e => zl hy 3 (pc2 := 19) (lv2 := [(0, .ref l0), (1, .int l1)]) (st2 := [.int (l1 + (Int32.ofInt 1)), .ref x5, .int x4, .ref l0]) rfl <| zx_aI hy (j := .iaload) (Or.inl ⟨rfl, rfl⟩) rfl e fun x6 _ e => zl hy 1 (pc2 := 21) (lv2 := [(0, .ref l0), (1, .int l1)]) (st2 := [.ref l0, .int x6, .int x4, .ref l0]) rfl <| zx_gR hy rfl e fun x7 _ e => zl hy 1 (pc2 := 25) (lv2 := [(0, .ref l0), (1, .int l1)]) (st2 := [.int l1, .ref x7, .int x6, .int x4, .ref l0]) rfl <| zx_aI hy (j := .iaload) (Or.inl ⟨rfl, rfl⟩) rfl e fun x8 _ e => zl hy 1 (pc2 := 27) (lv2 := [(0, .ref l0), (1, .int l1)]) (st2 := [.int (x6 - x8), .int x4, .ref l0]) rfl <| zx_call hy (as := [.ref l0, .int x4, .int (x6 - x8)]) (rest := []) (ov := (fun v => some (.int v))) (fun _ => rfl) rfl rfl (Or.inl rfl) rfl rfl (Nat.le_of_ble_eq_true rfl) (Nat.le_of_ble_eq_true rfl) (fun _ e _ => z_rcvT (rfM_shelves N l0 x4 (x6 - x8) h2 _ e)) (fun _ e => zt_deep (Nat.le_of_ble_eq_true rfl) (sfM_shelves N l0 x4 (x6 - x8) h2 _ e)) e fun x9 h10 _ e => zx_ret hy rfl rfl rfl rfl e
theorem rfM_keepsFactor (N : Nat) (l0 : Nat) (l1 : Int32) (h : zH) (r : Int32 × zH) (e : fM_keepsFactor N l0 l1 h = some r) : fT h l0 5 = true := by
  unfold fM_keepsFactor at e
  exact (cond_some e).1
/-- LyndonBenchModel.removes(I)I -/
theorem mfM_removes : z_me 190 zc_190 4 [] (some .int) := ⟨z_me0 rfl, rfl, rfl, rfl⟩
def fM_removes_114 (N : Nat) : Nat → Nat → Int32 → zH → Option (Int32 × zH)
  | 0, _, _, _ => none
  | n + 1, l0, l2, h => cond (z_cmp .ge l2 (Int32.ofInt 40)) (b1 (fR h l0 5 0) fun x10 => b1 (fAI h x10 100 (Int32.ofInt 2)) fun x11 => some (x11, h)) (b1 (fR h l0 5 0) fun x12 => b1 (fR h l0 5 0) fun x13 => b1 (fAI h x13 100 (Int32.ofInt 2)) fun x14 => b1 (fAS h x12 100 (((Int32.ofInt 131) + ((Int32.ofInt 40) * x14)) + l2) (.int (Int32.ofInt 0))) fun h15 => fM_removes_114 N n  l0 (l2 + Int32.ofInt 1) h15)
theorem sfM_removes_114 {xs : List Int32} (N : Nat)   : ∀ (n : Nat) (l0 : Nat) (l2 : Int32) (h : zH) (r : Int32 × zH), fM_removes_114 N n  l0 l2 h = some r → zt xs (1) 190 114 [(0, .ref l0), (2, .int l2)] [] h 0 0 (zQ cI r) := by
  have hy := mfM_removes
  intro n
  induction n with
  | zero =>
    intro l0 l2 h r e
    rw [fM_removes_114] at e
    cases e
  | succ n ih =>
    intro l0 l2 h r e
    rw [fM_removes_114] at e
    exact zl hy 1 (pc2 := 115) (lv2 := [(0, .ref l0), (2, .int l2)]) (st2 := [.int l2]) rfl <| zx_bip hy (c := 40) rfl (by decide) <| zx_c hy rfl e (fun _ e => zl hy 1 (pc2 := 148) (lv2 := [(0, .ref l0), (2, .int l2)]) (st2 := [.ref l0]) rfl <| zx_gR hy rfl e fun x10 _ e => zl hy 1 (pc2 := 152) (lv2 := [(0, .ref l0), (2, .int l2)]) (st2 := [.int (Int32.ofInt 2), .ref x10]) rfl <| zx_aI hy (j := .iaload) (Or.inl ⟨rfl, rfl⟩) rfl e fun x11 _ e => zx_ret hy rfl rfl rfl rfl e) (fun _ e => zl hy 1 (pc2 := 121) (lv2 := [(0, .ref l0), (2, .int l2)]) (st2 := [.ref l0]) rfl <| zx_gR hy rfl e fun x12 _ e => zx_sip hy (c := 131) rfl (by decide) <| zx_bip hy (c := 40) rfl (by decide) <| zl hy 1 (pc2 := 130) (lv2 := [(0, .ref l0), (2, .int l2)]) (st2 := [.ref l0, .int (Int32.ofInt 40), .int (Int32.ofInt 131), .ref x12]) rfl <| zx_gR hy rfl e fun x13 _ e => zl hy 1 (pc2 := 134) (lv2 := [(0, .ref l0), (2, .int l2)]) (st2 := [.int (Int32.ofInt 2), .ref x13, .int (Int32.ofInt 40), .int (Int32.ofInt 131), .ref x12]) rfl <| zx_aI hy (j := .iaload) (Or.inl ⟨rfl, rfl⟩) rfl e fun x14 _ e => zl hy 5 (pc2 := 140) (lv2 := [(0, .ref l0), (2, .int l2)]) (st2 := [.int (Int32.ofInt 0), .int (((Int32.ofInt 131) + ((Int32.ofInt 40) * x14)) + l2), .ref x12]) rfl <| zx_sI hy (j := .iastore) (Or.inl ⟨rfl, rfl, rfl⟩) rfl e fun h15 _ e => zl hy 2 (pc2 := 114) (lv2 := [(2, .int (l2 + Int32.ofInt 1)), (0, .ref l0)]) (st2 := []) rfl <| zt_sub (z_fc rfl (z_fc rfl (z_fn))) <| ih l0 (l2 + Int32.ofInt 1) h15 _ e)
def fM_removes_36 (N : Nat) : Nat → (Nat → Int32 → zH → Option (Int32 × zH)) → Nat → Int32 → Int32 → zH → Option (Int32 × zH)
  | 0, _, _, _, _, _ => none
  | n + 1, k2, l0, l2, l3, h => cond (z_cmp .ge l3 (Int32.ofInt 40)) (k2 l0 (l2 + Int32.ofInt 1) h) (b1 (fR h l0 5 0) fun x14 => b1 (fR h l0 5 0) fun x15 => b1 (fAI h x15 100 ((((Int32.ofInt 131) + ((Int32.ofInt 40) * l2)) + (Int32.ofInt 40)) + l3)) fun x16 => b1 (fAS h x14 100 (((Int32.ofInt 131) + ((Int32.ofInt 40) * l2)) + l3) (.int x16)) fun h17 => fM_removes_36 N n k2 l0 l2 (l3 + Int32.ofInt 1) h17)
theorem sfM_removes_36 {xs : List Int32} (N : Nat) (k2 : Nat → Int32 → zH → Option (Int32 × zH))  (hk2 : ∀ (l0 : Nat) (l2 : Int32) (h : zH) (r : Int32 × zH), k2 l0 l2 h = some r → zt xs (1) 190 2 [(0, .ref l0), (2, .int l2)] [] h 0 0 (zQ cI r)) : ∀ (n : Nat) (l0 : Nat) (l2 : Int32) (l3 : Int32) (h : zH) (r : Int32 × zH), fM_removes_36 N n k2 l0 l2 l3 h = some r → zt xs (1) 190 36 [(0, .ref l0), (2, .int l2), (3, .int l3)] [] h 0 0 (zQ cI r) := by
  have hy := mfM_removes
  intro n
  induction n with
  | zero =>
    intro l0 l2 l3 h r e
    rw [fM_removes_36] at e
    cases e
  | succ n ih =>
    intro l0 l2 l3 h r e
    rw [fM_removes_36] at e
    exact zl hy 1 (pc2 := 37) (lv2 := [(0, .ref l0), (2, .int l2), (3, .int l3)]) (st2 := [.int l3]) rfl <| zx_bip hy (c := 40) rfl (by decide) <| zx_c hy rfl e (fun _ e => zl hy 2 (pc2 := 2) (lv2 := [(2, .int (l2 + Int32.ofInt 1)), (0, .ref l0), (3, .int l3)]) (st2 := []) rfl <| zt_sub (z_fc rfl (z_fc rfl (z_fn))) <| hk2 l0 (l2 + Int32.ofInt 1) h _ e) (fun _ e => zl hy 1 (pc2 := 43) (lv2 := [(0, .ref l0), (2, .int l2), (3, .int l3)]) (st2 := [.ref l0]) rfl <| zx_gR hy rfl e fun x14 _ e => zx_sip hy (c := 131) rfl (by decide) <| zx_bip hy (c := 40) rfl (by decide) <| zl hy 6 (pc2 := 57) (lv2 := [(0, .ref l0), (2, .int l2), (3, .int l3)]) (st2 := [.ref l0, .int (((Int32.ofInt 131) + ((Int32.ofInt 40) * l2)) + l3), .ref x14]) rfl <| zx_gR hy rfl e fun x15 _ e => zx_sip hy (c := 131) rfl (by decide) <| zx_bip hy (c := 40) rfl (by decide) <| zl hy 3 (pc2 := 68) (lv2 := [(0, .ref l0), (2, .int l2), (3, .int l3)]) (st2 := [.int ((Int32.ofInt 131) + ((Int32.ofInt 40) * l2)), .ref x15, .int (((Int32.ofInt 131) + ((Int32.ofInt 40) * l2)) + l3), .ref x14]) rfl <| zx_bip hy (c := 40) rfl (by decide) <| zl hy 3 (pc2 := 73) (lv2 := [(0, .ref l0), (2, .int l2), (3, .int l3)]) (st2 := [.int ((((Int32.ofInt 131) + ((Int32.ofInt 40) * l2)) + (Int32.ofInt 40)) + l3), .ref x15, .int (((Int32.ofInt 131) + ((Int32.ofInt 40) * l2)) + l3), .ref x14]) rfl <| zx_aI hy (j := .iaload) (Or.inl ⟨rfl, rfl⟩) rfl e fun x16 _ e => zx_sI hy (j := .iastore) (Or.inl ⟨rfl, rfl, rfl⟩) rfl e fun h17 _ e => zl hy 2 (pc2 := 36) (lv2 := [(3, .int (l3 + Int32.ofInt 1)), (0, .ref l0), (2, .int l2)]) (st2 := []) rfl <| zt_sub (z_fc rfl (z_fc rfl (z_fc rfl (z_fn)))) <| ih l0 l2 (l3 + Int32.ofInt 1) h17 _ e)
def fM_removes_2 (N : Nat) : Nat → Nat → Int32 → zH → Option (Int32 × zH)
  | 0, _, _, _ => none
  | n + 1, l0, l2, h => b1 (fR h l0 5 0) fun x1 => b1 (fAI h x1 100 (Int32.ofInt 2)) fun x2 => cond (z_cmp .ge (l2 + (Int32.ofInt 1)) x2) (b1 (fR h l0 5 0) fun x3 => b1 (fAI h x3 100 (Int32.ofInt 2)) fun x4 => b1 (fAS h x3 100 (Int32.ofInt 2) (.int (x4 - (Int32.ofInt 1)))) fun h5 => b1 (fR h5 l0 5 0) fun x6 => b1 (fR h5 l0 5 0) fun x7 => b1 (fAI h5 x7 100 (Int32.ofInt 2)) fun x8 => b1 (fAS h5 x6 100 ((Int32.ofInt 123) + x8) (.int (Int32.ofInt 0))) fun h9 => fM_removes_114 N N  l0 (Int32.ofInt 0) h9) (b1 (fR h l0 5 0) fun x10 => b1 (fR h l0 5 0) fun x11 => b1 (fAI h x11 100 (((Int32.ofInt 123) + l2) + (Int32.ofInt 1))) fun x12 => b1 (fAS h x10 100 ((Int32.ofInt 123) + l2) (.int x12)) fun h13 => fM_removes_36 N N (fM_removes_2 N n ) l0 l2 (Int32.ofInt 0) h13)
theorem sfM_removes_2 {xs : List Int32} (N : Nat)   : ∀ (n : Nat) (l0 : Nat) (l2 : Int32) (h : zH) (r : Int32 × zH), fM_removes_2 N n  l0 l2 h = some r → zt xs (1) 190 2 [(0, .ref l0), (2, .int l2)] [] h 0 0 (zQ cI r) := by
  have hy := mfM_removes
  intro n
  induction n with
  | zero =>
    intro l0 l2 h r e
    rw [fM_removes_2] at e
    cases e
  | succ n ih =>
    intro l0 l2 h r e
    rw [fM_removes_2] at e
    exact zl hy 4 (pc2 := 6) (lv2 := [(0, .ref l0), (2, .int l2)]) (st2 := [.ref l0, .int (l2 + (Int32.ofInt 1))]) rfl <| zx_gR hy rfl e fun x1 _ e => zl hy 1 (pc2 := 10) (lv2 := [(0, .ref l0), (2, .int l2)]) (st2 := [.int (Int32.ofInt 2), .ref x1, .int (l2 + (Int32.ofInt 1))]) rfl <| zx_aI hy (j := .iaload) (Or.inl ⟨rfl, rfl⟩) rfl e fun x2 _ e => zx_c hy rfl e (fun _ e => zl hy 1 (pc2 := 88) (lv2 := [(0, .ref l0), (2, .int l2)]) (st2 := [.ref l0]) rfl <| zx_gR hy rfl e fun x3 _ e => zl hy 2 (pc2 := 93) (lv2 := [(0, .ref l0), (2, .int l2)]) (st2 := [.int (Int32.ofInt 2), .ref x3, .int (Int32.ofInt 2), .ref x3]) rfl <| zx_aI hy (j := .iaload) (Or.inl ⟨rfl, rfl⟩) rfl e fun x4 _ e => zl hy 2 (pc2 := 96) (lv2 := [(0, .ref l0), (2, .int l2)]) (st2 := [.int (x4 - (Int32.ofInt 1)), .int (Int32.ofInt 2), .ref x3]) rfl <| zx_sI hy (j := .iastore) (Or.inl ⟨rfl, rfl, rfl⟩) rfl e fun h5 _ e => zl hy 1 (pc2 := 98) (lv2 := [(0, .ref l0), (2, .int l2)]) (st2 := [.ref l0]) rfl <| zx_gR hy rfl e fun x6 _ e => zx_bip hy (c := 123) rfl (by decide) <| zl hy 1 (pc2 := 104) (lv2 := [(0, .ref l0), (2, .int l2)]) (st2 := [.ref l0, .int (Int32.ofInt 123), .ref x6]) rfl <| zx_gR hy rfl e fun x7 _ e => zl hy 1 (pc2 := 108) (lv2 := [(0, .ref l0), (2, .int l2)]) (st2 := [.int (Int32.ofInt 2), .ref x7, .int (Int32.ofInt 123), .ref x6]) rfl <| zx_aI hy (j := .iaload) (Or.inl ⟨rfl, rfl⟩) rfl e fun x8 _ e => zl hy 2 (pc2 := 111) (lv2 := [(0, .ref l0), (2, .int l2)]) (st2 := [.int (Int32.ofInt 0), .int ((Int32.ofInt 123) + x8), .ref x6]) rfl <| zx_sI hy (j := .iastore) (Or.inl ⟨rfl, rfl, rfl⟩) rfl e fun h9 _ e => zl hy 2 (pc2 := 114) (lv2 := [(2, .int (Int32.ofInt 0)), (0, .ref l0)]) (st2 := []) rfl <| zt_sub (z_fc rfl (z_fc rfl (z_fn))) <| sfM_removes_114 N   N l0 (Int32.ofInt 0) h9 _ e) (fun _ e => zl hy 1 (pc2 := 15) (lv2 := [(0, .ref l0), (2, .int l2)]) (st2 := [.ref l0]) rfl <| zx_gR hy rfl e fun x10 _ e => zx_bip hy (c := 123) rfl (by decide) <| zl hy 3 (pc2 := 23) (lv2 := [(0, .ref l0), (2, .int l2)]) (st2 := [.ref l0, .int ((Int32.ofInt 123) + l2), .ref x10]) rfl <| zx_gR hy rfl e fun x11 _ e => zx_bip hy (c := 123) rfl (by decide) <| zl hy 4 (pc2 := 32) (lv2 := [(0, .ref l0), (2, .int l2)]) (st2 := [.int (((Int32.ofInt 123) + l2) + (Int32.ofInt 1)), .ref x11, .int ((Int32.ofInt 123) + l2), .ref x10]) rfl <| zx_aI hy (j := .iaload) (Or.inl ⟨rfl, rfl⟩) rfl e fun x12 _ e => zx_sI hy (j := .iastore) (Or.inl ⟨rfl, rfl, rfl⟩) rfl e fun h13 _ e => zl hy 2 (pc2 := 36) (lv2 := [(3, .int (Int32.ofInt 0)), (0, .ref l0), (2, .int l2)]) (st2 := []) rfl <| zt_sub (z_fc rfl (z_fc rfl (z_fc rfl (z_fn)))) <| sfM_removes_36 N (fM_removes_2 N n ) ih N l0 l2 (Int32.ofInt 0) h13 _ e)
def fM_removes (N : Nat) (l0 : Nat) (l1 : Int32) (h : zH) : Option (Int32 × zH) := cond (fT h l0 5) (fM_removes_2 N N  l0 l1 h) none
theorem sfM_removes {xs : List Int32} (N : Nat) (l0 : Nat) (l1 : Int32) (h : zH) (r : Int32 × zH) (e : fM_removes N l0 l1 h = some r) : zt xs (1) 190 0 [(0, .ref l0), (1, .int l1)] [] h 0 0 (zQ cI r) := by
  have hy := mfM_removes
  unfold fM_removes at e
  replace e := (cond_some e).2
  exact zl hy 2 (pc2 := 2) (lv2 := [(2, .int l1), (0, .ref l0), (1, .int l1)]) (st2 := []) rfl <| zt_sub (z_fc rfl (z_fc rfl (z_fn))) <| sfM_removes_2 N   N l0 l1 h _ e
theorem rfM_removes (N : Nat) (l0 : Nat) (l1 : Int32) (h : zH) (r : Int32 × zH) (e : fM_removes N l0 l1 h = some r) : fT h l0 5 = true := by
  unfold fM_removes at e
  exact (cond_some e).1
/-- LyndonBenchModel.shelfLength()I -/
theorem mfM_shelfLength : z_me 191 zc_191 3 [] (some .int) := ⟨z_me0 rfl, rfl, rfl, rfl⟩
def fM_shelfLength_4 (N : Nat) : Nat → Nat → Int32 → Int32 → zH → Option (Int32 × zH)
  | 0, _, _, _, _ => none
  | n + 1, l0, l1, l2, h => b1 (fR h l0 5 0) fun x1 => b1 (fAI h x1 100 (Int32.ofInt 2)) fun x2 => cond (z_cmp .ge l2 x2) (some (l1, h)) (b1 (fR h l0 5 0) fun x3 => b1 (fAI h x3 100 ((Int32.ofInt 123) + l2)) fun x4 => fM_shelfLength_4 N n  l0 (l1 + x4) (l2 + Int32.ofInt 1) h)
theorem sfM_shelfLength_4 {xs : List Int32} (N : Nat)   : ∀ (n : Nat) (l0 : Nat) (l1 : Int32) (l2 : Int32) (h : zH) (r : Int32 × zH), fM_shelfLength_4 N n  l0 l1 l2 h = some r → zt xs (1) 191 4 [(0, .ref l0), (1, .int l1), (2, .int l2)] [] h 0 0 (zQ cI r) := by
  have hy := mfM_shelfLength
  intro n
  induction n with
  | zero =>
    intro l0 l1 l2 h r e
    rw [fM_shelfLength_4] at e
    cases e
  | succ n ih =>
    intro l0 l1 l2 h r e
    rw [fM_shelfLength_4] at e
    exact zl hy 2 (pc2 := 6) (lv2 := [(0, .ref l0), (1, .int l1), (2, .int l2)]) (st2 := [.ref l0, .int l2]) rfl <| zx_gR hy rfl e fun x1 _ e => zl hy 1 (pc2 := 10) (lv2 := [(0, .ref l0), (1, .int l1), (2, .int l2)]) (st2 := [.int (Int32.ofInt 2), .ref x1, .int l2]) rfl <| zx_aI hy (j := .iaload) (Or.inl ⟨rfl, rfl⟩) rfl e fun x2 _ e => zx_c hy rfl e (fun _ e => zl hy 1 (pc2 := 33) (lv2 := [(0, .ref l0), (1, .int l1), (2, .int l2)]) (st2 := [.int l1]) rfl <| zx_ret hy rfl rfl rfl rfl e) (fun _ e => zl hy 2 (pc2 := 16) (lv2 := [(0, .ref l0), (1, .int l1), (2, .int l2)]) (st2 := [.ref l0, .int l1]) rfl <| zx_gR hy rfl e fun x3 _ e => zx_bip hy (c := 123) rfl (by decide) <| zl hy 2 (pc2 := 23) (lv2 := [(0, .ref l0), (1, .int l1), (2, .int l2)]) (st2 := [.int ((Int32.ofInt 123) + l2), .ref x3, .int l1]) rfl <| zx_aI hy (j := .iaload) (Or.inl ⟨rfl, rfl⟩) rfl e fun x4 _ e => zl hy 4 (pc2 := 4) (lv2 := [(2, .int (l2 + Int32.ofInt 1)), (1, .int (l1 + x4)), (0, .ref l0)]) (st2 := []) rfl <| zt_sub (z_fc rfl (z_fc rfl (z_fc rfl (z_fn)))) <| ih l0 (l1 + x4) (l2 + Int32.ofInt 1) h _ e)
def fM_shelfLength (N : Nat) (l0 : Nat) (h : zH) : Option (Int32 × zH) := cond (fT h l0 5) (fM_shelfLength_4 N N  l0 (Int32.ofInt 0) (Int32.ofInt 0) h) none
theorem sfM_shelfLength {xs : List Int32} (N : Nat) (l0 : Nat) (h : zH) (r : Int32 × zH) (e : fM_shelfLength N l0 h = some r) : zt xs (1) 191 0 [(0, .ref l0)] [] h 0 0 (zQ cI r) := by
  have hy := mfM_shelfLength
  unfold fM_shelfLength at e
  replace e := (cond_some e).2
  exact zl hy 4 (pc2 := 4) (lv2 := [(2, .int (Int32.ofInt 0)), (1, .int (Int32.ofInt 0)), (0, .ref l0)]) (st2 := []) rfl <| zt_sub (z_fc rfl (z_fc rfl (z_fc rfl (z_fn)))) <| sfM_shelfLength_4 N   N l0 (Int32.ofInt 0) (Int32.ofInt 0) h _ e
theorem rfM_shelfLength (N : Nat) (l0 : Nat) (h : zH) (r : Int32 × zH) (e : fM_shelfLength N l0 h = some r) : fT h l0 5 = true := by
  unfold fM_shelfLength at e
  exact (cond_some e).1
/-- LyndonBenchModel.canJoin()Z -/
theorem mfM_canJoin : z_me 192 zc_192 1 [] (some .boolean) := ⟨z_me0 rfl, rfl, rfl, rfl⟩
def fM_canJoin_23 (N : Nat)  (s0 : Int32) (h : zH) : Option (Int32 × zH) := cond (decide (s0 = Int32.ofInt 0) || decide (s0 = Int32.ofInt 1)) (some (s0, h)) none
theorem sfM_canJoin_23 {xs : List Int32} (N : Nat)   (s0 : Int32) (h : zH) (r : Int32 × zH) (e : fM_canJoin_23 N  s0 h = some r) : zt xs (2) 192 23 [] [.int s0] h 0 0 (zQ cI r) := by
  have hy := mfM_canJoin
  unfold fM_canJoin_23 at e
  exact zx_retB hy rfl rfl e
def fM_canJoin_22 (N : Nat)   (h : zH) : Option (Int32 × zH) := fM_canJoin_23 N  (Int32.ofInt 0) h
theorem sfM_canJoin_22 {xs : List Int32} (N : Nat)    (h : zH) (r : Int32 × zH) (e : fM_canJoin_22 N   h = some r) : zt xs (2) 192 22 [] [] h 0 0 (zQ cI r) := by
  have hy := mfM_canJoin
  unfold fM_canJoin_22 at e
  exact zl hy 1 (pc2 := 23) (lv2 := []) (st2 := [.int (Int32.ofInt 0)]) rfl <| zt_sub (z_fn) <| sfM_canJoin_23 N   (Int32.ofInt 0) h _ e
def fM_canJoin (N : Nat) (l0 : Nat) (h : zH) : Option (Int32 × zH) := cond (fT h l0 5) (b1 (fR h l0 5 0) fun x1 => b1 (fAI h x1 100 (Int32.ofInt 2)) fun x2 => cond (z_cmp .le x2 (Int32.ofInt 0)) (fM_canJoin_22 N   h) (b2 (fM_shelfLength N l0 h) fun x3 h4 => cond (z_cmp .gt x3 (Int32.ofInt 120)) (fM_canJoin_22 N   h4) (fM_canJoin_23 N  (Int32.ofInt 1) h4))) none
theorem sfM_canJoin {xs : List Int32} (N : Nat) (l0 : Nat) (h : zH) (r : Int32 × zH) (e : fM_canJoin N l0 h = some r) : zt xs (2) 192 0 [(0, .ref l0)] [] h 0 0 (zQ cI r) := by
  have hy := mfM_canJoin
  unfold fM_canJoin at e
  replace e := (cond_some e).2
  exact zl hy 1 (pc2 := 1) (lv2 := [(0, .ref l0)]) (st2 := [.ref l0]) rfl <| zx_gR hy rfl e fun x1 _ e => zl hy 1 (pc2 := 5) (lv2 := [(0, .ref l0)]) (st2 := [.int (Int32.ofInt 2), .ref x1]) rfl <| zx_aI hy (j := .iaload) (Or.inl ⟨rfl, rfl⟩) rfl e fun x2 _ e => zx_c0 hy rfl e (fun _ e => zt_sub (z_fn) <| sfM_canJoin_22 N    h _ e) (fun _ e => zl hy 1 (pc2 := 10) (lv2 := [(0, .ref l0)]) (st2 := [.ref l0]) rfl <| zx_call hy (as := [.ref l0]) (rest := []) (ov := (fun v => some (.int v))) (fun _ => rfl) rfl rfl (Or.inl rfl) rfl rfl (Nat.le_of_ble_eq_true rfl) (Nat.le_of_ble_eq_true rfl) (fun _ e _ => z_rcvT (rfM_shelfLength N l0 h _ e)) (fun _ e => zt_deep (Nat.le_of_ble_eq_true rfl) (sfM_shelfLength N l0 h _ e)) e fun x3 h4 _ e => zx_bip hy (c := 120) rfl (by decide) <| zx_c hy rfl e (fun _ e => zt_sub (z_fn) <| sfM_canJoin_22 N    h4 _ e) (fun _ e => zl hy 2 (pc2 := 23) (lv2 := [(0, .ref l0)]) (st2 := [.int (Int32.ofInt 1)]) rfl <| zt_sub (z_fn) <| sfM_canJoin_23 N   (Int32.ofInt 1) h4 _ e))
theorem rfM_canJoin (N : Nat) (l0 : Nat) (h : zH) (r : Int32 × zH) (e : fM_canJoin N l0 h = some r) : fT h l0 5 = true := by
  unfold fM_canJoin at e
  exact (cond_some e).1
/-- LyndonBenchModel.greatestBeside(I)I -/
theorem mfM_greatestBeside : z_me 193 zc_193 4 [] (some .int) := ⟨z_me0 rfl, rfl, rfl, rfl⟩
def fM_greatestBeside_38 (N : Nat) (k4 : Nat → Int32 → Int32 → Int32 → zH → Option (Int32 × zH)) (l0 : Nat) (l1 : Int32) (l2 : Int32) (l3 : Int32) (h : zH) : Option (Int32 × zH) := k4 l0 l1 l2 (l3 + Int32.ofInt 1) h
theorem sfM_greatestBeside_38 {xs : List Int32} (N : Nat) (k4 : Nat → Int32 → Int32 → Int32 → zH → Option (Int32 × zH))  (hk4 : ∀ (l0 : Nat) (l1 : Int32) (l2 : Int32) (l3 : Int32) (h : zH) (r : Int32 × zH), k4 l0 l1 l2 l3 h = some r → zt xs (3) 193 4 [(0, .ref l0), (1, .int l1), (2, .int l2), (3, .int l3)] [] h 0 0 (zQ cI r)) (l0 : Nat) (l1 : Int32) (l2 : Int32) (l3 : Int32) (h : zH) (r : Int32 × zH) (e : fM_greatestBeside_38 N k4 l0 l1 l2 l3 h = some r) : zt xs (3) 193 38 [(0, .ref l0), (1, .int l1), (2, .int l2), (3, .int l3)] [] h 0 0 (zQ cI r) := by
  have hy := mfM_greatestBeside
  unfold fM_greatestBeside_38 at e
  exact zl hy 2 (pc2 := 4) (lv2 := [(3, .int (l3 + Int32.ofInt 1)), (0, .ref l0), (1, .int l1), (2, .int l2)]) (st2 := []) rfl <| zt_sub (z_fc rfl (z_fc rfl (z_fc rfl (z_fc rfl (z_fn))))) <| hk4 l0 l1 l2 (l3 + Int32.ofInt 1) h _ e
def fM_greatestBeside_36 (N : Nat) (k4 : Nat → Int32 → Int32 → Int32 → zH → Option (Int32 × zH)) (l0 : Nat) (l1 : Int32) (l3 : Int32) (h : zH) : Option (Int32 × zH) := fM_greatestBeside_38 N k4 l0 l1 l3 l3 h
theorem sfM_greatestBeside_36 {xs : List Int32} (N : Nat) (k4 : Nat → Int32 → Int32 → Int32 → zH → Option (Int32 × zH))  (hk4 : ∀ (l0 : Nat) (l1 : Int32) (l2 : Int32) (l3 : Int32) (h : zH) (r : Int32 × zH), k4 l0 l1 l2 l3 h = some r → zt xs (3) 193 4 [(0, .ref l0), (1, .int l1), (2, .int l2), (3, .int l3)] [] h 0 0 (zQ cI r)) (l0 : Nat) (l1 : Int32) (l3 : Int32) (h : zH) (r : Int32 × zH) (e : fM_greatestBeside_36 N k4 l0 l1 l3 h = some r) : zt xs (3) 193 36 [(0, .ref l0), (1, .int l1), (3, .int l3)] [] h 0 0 (zQ cI r) := by
  have hy := mfM_greatestBeside
  unfold fM_greatestBeside_36 at e
  exact zl hy 2 (pc2 := 38) (lv2 := [(2, .int l3), (0, .ref l0), (1, .int l1), (3, .int l3)]) (st2 := []) rfl <| zt_sub (z_fc rfl (z_fc rfl (z_fc rfl (z_fc rfl (z_fn))))) <| sfM_greatestBeside_38 N k4 hk4 l0 l1 l3 l3 h _ e
def fM_greatestBeside_4 (N : Nat) : Nat → Nat → Int32 → Int32 → Int32 → zH → Option (Int32 × zH)
  | 0, _, _, _, _, _ => none
  | n + 1, l0, l1, l2, l3, h => b1 (fR h l0 5 0) fun x1 => b1 (fAI h x1 100 (Int32.ofInt 2)) fun x2 => cond (z_cmp .ge l3 x2) (some (l2, h)) (cond (z_cmp .ne ((l1 >>> (l3 &&& 31)) &&& (Int32.ofInt 1)) (Int32.ofInt 0)) (fM_greatestBeside_38 N (fM_greatestBeside_4 N n ) l0 l1 l2 l3 h) (cond (z_cmp .eq l2 (Int32.ofInt (-1))) (fM_greatestBeside_36 N (fM_greatestBeside_4 N n ) l0 l1 l3 h) (b2 (fM_shelved N l0 l3 l2 h) fun x3 h4 => cond (z_cmp .le x3 (Int32.ofInt 0)) (fM_greatestBeside_38 N (fM_greatestBeside_4 N n ) l0 l1 l2 l3 h4) (fM_greatestBeside_36 N (fM_greatestBeside_4 N n ) l0 l1 l3 h4))))
theorem sfM_greatestBeside_4 {xs : List Int32} (N : Nat)   : ∀ (n : Nat) (l0 : Nat) (l1 : Int32) (l2 : Int32) (l3 : Int32) (h : zH) (r : Int32 × zH), fM_greatestBeside_4 N n  l0 l1 l2 l3 h = some r → zt xs (3) 193 4 [(0, .ref l0), (1, .int l1), (2, .int l2), (3, .int l3)] [] h 0 0 (zQ cI r) := by
  have hy := mfM_greatestBeside
  intro n
  induction n with
  | zero =>
    intro l0 l1 l2 l3 h r e
    rw [fM_greatestBeside_4] at e
    cases e
  | succ n ih =>
    intro l0 l1 l2 l3 h r e
    rw [fM_greatestBeside_4] at e
    exact zl hy 2 (pc2 := 6) (lv2 := [(0, .ref l0), (1, .int l1), (2, .int l2), (3, .int l3)]) (st2 := [.ref l0, .int l3]) rfl <| zx_gR hy rfl e fun x1 _ e => zl hy 1 (pc2 := 10) (lv2 := [(0, .ref l0), (1, .int l1), (2, .int l2), (3, .int l3)]) (st2 := [.int (Int32.ofInt 2), .ref x1, .int l3]) rfl <| zx_aI hy (j := .iaload) (Or.inl ⟨rfl, rfl⟩) rfl e fun x2 _ e => zx_c hy rfl e (fun _ e => zl hy 1 (pc2 := 45) (lv2 := [(0, .ref l0), (1, .int l1), (2, .int l2), (3, .int l3)]) (st2 := [.int l2]) rfl <| zx_ret hy rfl rfl rfl rfl e) (fun _ e => zl hy 5 (pc2 := 19) (lv2 := [(0, .ref l0), (1, .int l1), (2, .int l2), (3, .int l3)]) (st2 := [.int ((l1 >>> (l3 &&& 31)) &&& (Int32.ofInt 1))]) rfl <| zx_c0 hy rfl e (fun _ e => zt_sub (z_fc rfl (z_fc rfl (z_fc rfl (z_fc rfl (z_fn))))) <| sfM_greatestBeside_38 N (fM_greatestBeside_4 N n ) ih l0 l1 l2 l3 h _ e) (fun _ e => zl hy 2 (pc2 := 24) (lv2 := [(0, .ref l0), (1, .int l1), (2, .int l2), (3, .int l3)]) (st2 := [.int (Int32.ofInt (-1)), .int l2]) rfl <| zx_c hy rfl e (fun _ e => zt_sub (z_fc rfl (z_fc rfl (z_fc rfl (z_fn)))) <| sfM_greatestBeside_36 N (fM_greatestBeside_4 N n ) ih l0 l1 l3 h _ e) (fun _ e => zl hy 3 (pc2 := 30) (lv2 := [(0, .ref l0), (1, .int l1), (2, .int l2), (3, .int l3)]) (st2 := [.int l2, .int l3, .ref l0]) rfl <| zx_call hy (as := [.ref l0, .int l3, .int l2]) (rest := []) (ov := (fun v => some (.int v))) (fun _ => rfl) rfl rfl (Or.inl rfl) rfl rfl (Nat.le_of_ble_eq_true rfl) (Nat.le_of_ble_eq_true rfl) (fun _ e _ => z_rcvT (rfM_shelved N l0 l3 l2 h _ e)) (fun _ e => zt_deep (Nat.le_of_ble_eq_true rfl) (sfM_shelved N l0 l3 l2 h _ e)) e fun x3 h4 _ e => zx_c0 hy rfl e (fun _ e => zt_sub (z_fc rfl (z_fc rfl (z_fc rfl (z_fc rfl (z_fn))))) <| sfM_greatestBeside_38 N (fM_greatestBeside_4 N n ) ih l0 l1 l2 l3 h4 _ e) (fun _ e => zt_sub (z_fc rfl (z_fc rfl (z_fc rfl (z_fn)))) <| sfM_greatestBeside_36 N (fM_greatestBeside_4 N n ) ih l0 l1 l3 h4 _ e))))
def fM_greatestBeside (N : Nat) (l0 : Nat) (l1 : Int32) (h : zH) : Option (Int32 × zH) := cond (fT h l0 5) (fM_greatestBeside_4 N N  l0 l1 (Int32.ofInt (-1)) (Int32.ofInt 0) h) none
theorem sfM_greatestBeside {xs : List Int32} (N : Nat) (l0 : Nat) (l1 : Int32) (h : zH) (r : Int32 × zH) (e : fM_greatestBeside N l0 l1 h = some r) : zt xs (3) 193 0 [(0, .ref l0), (1, .int l1)] [] h 0 0 (zQ cI r) := by
  have hy := mfM_greatestBeside
  unfold fM_greatestBeside at e
  replace e := (cond_some e).2
  exact zl hy 4 (pc2 := 4) (lv2 := [(3, .int (Int32.ofInt 0)), (2, .int (Int32.ofInt (-1))), (0, .ref l0), (1, .int l1)]) (st2 := []) rfl <| zt_sub (z_fc rfl (z_fc rfl (z_fc rfl (z_fc rfl (z_fn))))) <| sfM_greatestBeside_4 N   N l0 l1 (Int32.ofInt (-1)) (Int32.ofInt 0) h _ e
theorem rfM_greatestBeside (N : Nat) (l0 : Nat) (l1 : Int32) (h : zH) (r : Int32 × zH) (e : fM_greatestBeside N l0 l1 h = some r) : fT h l0 5 = true := by
  unfold fM_greatestBeside at e
  exact (cond_some e).1
/-- LyndonBenchModel.joins()I -/
theorem mfM_joins : z_me 194 zc_194 5 [] (some .int) := ⟨z_me0 rfl, rfl, rfl, rfl⟩
def fM_joins_34 (N : Nat) : Nat → (Nat → Int32 → Int32 → zH → Option (Int32 × zH)) → Nat → Int32 → Int32 → Int32 → Int32 → zH → Option (Int32 × zH)
  | 0, _, _, _, _, _, _, _ => none
  | n + 1, k9, l0, l1, l2, l3, l4, h => b1 (fR h l0 5 0) fun x8 => b1 (fAI h x8 100 ((Int32.ofInt 123) + l3)) fun x9 => cond (z_cmp .ge l4 x9) (k9 l0 l1 (l2 + Int32.ofInt 1) h) (b1 (fR h l0 5 0) fun x10 => b1 (fAI h x10 100 (((Int32.ofInt 131) + ((Int32.ofInt 40) * l3)) + l4)) fun x11 => b2 (fM_adds N l0 x11 h) fun _ h13 => fM_joins_34 N n k9 l0 l1 l2 l3 (l4 + Int32.ofInt 1) h13)
theorem sfM_joins_34 {xs : List Int32} (N : Nat) (k9 : Nat → Int32 → Int32 → zH → Option (Int32 × zH))  (hk9 : ∀ (l0 : Nat) (l1 : Int32) (l2 : Int32) (h : zH) (r : Int32 × zH), k9 l0 l1 l2 h = some r → zt xs (4) 194 9 [(0, .ref l0), (1, .int l1), (2, .int l2)] [] h 0 0 (zQ cI r)) : ∀ (n : Nat) (l0 : Nat) (l1 : Int32) (l2 : Int32) (l3 : Int32) (l4 : Int32) (h : zH) (r : Int32 × zH), fM_joins_34 N n k9 l0 l1 l2 l3 l4 h = some r → zt xs (4) 194 34 [(0, .ref l0), (1, .int l1), (2, .int l2), (3, .int l3), (4, .int l4)] [] h 0 0 (zQ cI r) := by
  have hy := mfM_joins
  intro n
  induction n with
  | zero =>
    intro l0 l1 l2 l3 l4 h r e
    rw [fM_joins_34] at e
    cases e
  | succ n ih =>
    intro l0 l1 l2 l3 l4 h r e
    rw [fM_joins_34] at e
    exact zl hy 2 (pc2 := 37) (lv2 := [(0, .ref l0), (1, .int l1), (2, .int l2), (3, .int l3), (4, .int l4)]) (st2 := [.ref l0, .int l4]) rfl <| zx_gR hy rfl e fun x8 _ e => zx_bip hy (c := 123) rfl (by decide) <| zl hy 2 (pc2 := 44) (lv2 := [(0, .ref l0), (1, .int l1), (2, .int l2), (3, .int l3), (4, .int l4)]) (st2 := [.int ((Int32.ofInt 123) + l3), .ref x8, .int l4]) rfl <| zx_aI hy (j := .iaload) (Or.inl ⟨rfl, rfl⟩) rfl e fun x9 _ e => zx_c hy rfl e (fun _ e => zl hy 2 (pc2 := 9) (lv2 := [(2, .int (l2 + Int32.ofInt 1)), (0, .ref l0), (1, .int l1), (3, .int l3), (4, .int l4)]) (st2 := []) rfl <| zt_sub (z_fc rfl (z_fc rfl (z_fc rfl (z_fn)))) <| hk9 l0 l1 (l2 + Int32.ofInt 1) h _ e) (fun _ e => zl hy 2 (pc2 := 50) (lv2 := [(0, .ref l0), (1, .int l1), (2, .int l2), (3, .int l3), (4, .int l4)]) (st2 := [.ref l0, .ref l0]) rfl <| zx_gR hy rfl e fun x10 _ e => zx_sip hy (c := 131) rfl (by decide) <| zx_bip hy (c := 40) rfl (by decide) <| zl hy 5 (pc2 := 64) (lv2 := [(0, .ref l0), (1, .int l1), (2, .int l2), (3, .int l3), (4, .int l4)]) (st2 := [.int (((Int32.ofInt 131) + ((Int32.ofInt 40) * l3)) + l4), .ref x10, .ref l0]) rfl <| zx_aI hy (j := .iaload) (Or.inl ⟨rfl, rfl⟩) rfl e fun x11 _ e => zx_call hy (as := [.ref l0, .int x11]) (rest := []) (ov := (fun _ => none)) (fun _ => rfl) rfl rfl (Or.inl rfl) rfl rfl (Nat.le_of_ble_eq_true rfl) (Nat.le_of_ble_eq_true rfl) (fun _ e _ => z_rcvT (rfM_adds N l0 x11 h _ e)) (fun _ e => zt_deep (Nat.le_of_ble_eq_true rfl) (sfM_adds N l0 x11 h _ e)) e fun _ h13 _ e => zl hy 2 (pc2 := 34) (lv2 := [(4, .int (l4 + Int32.ofInt 1)), (0, .ref l0), (1, .int l1), (2, .int l2), (3, .int l3)]) (st2 := []) rfl <| zt_sub (z_fc rfl (z_fc rfl (z_fc rfl (z_fc rfl (z_fc rfl (z_fn)))))) <| ih l0 l1 l2 l3 (l4 + Int32.ofInt 1) h13 _ e)
def fM_joins_9 (N : Nat) : Nat → Nat → Int32 → Int32 → zH → Option (Int32 × zH)
  | 0, _, _, _, _ => none
  | n + 1, l0, l1, l2, h => b1 (fR h l0 5 0) fun x2 => b1 (fAI h x2 100 (Int32.ofInt 2)) fun x3 => cond (z_cmp .ge l2 x3) (b2 (fM_takes N l0 h) fun x4 h5 => some (x4, h5)) (b2 (fM_greatestBeside N l0 l1 h) fun x6 h7 => fM_joins_34 N N (fM_joins_9 N n ) l0 (l1 ||| ((Int32.ofInt 1) <<< (x6 &&& 31))) l2 x6 (Int32.ofInt 0) h7)
theorem sfM_joins_9 {xs : List Int32} (N : Nat)   : ∀ (n : Nat) (l0 : Nat) (l1 : Int32) (l2 : Int32) (h : zH) (r : Int32 × zH), fM_joins_9 N n  l0 l1 l2 h = some r → zt xs (4) 194 9 [(0, .ref l0), (1, .int l1), (2, .int l2)] [] h 0 0 (zQ cI r) := by
  have hy := mfM_joins
  intro n
  induction n with
  | zero =>
    intro l0 l1 l2 h r e
    rw [fM_joins_9] at e
    cases e
  | succ n ih =>
    intro l0 l1 l2 h r e
    rw [fM_joins_9] at e
    exact zl hy 2 (pc2 := 11) (lv2 := [(0, .ref l0), (1, .int l1), (2, .int l2)]) (st2 := [.ref l0, .int l2]) rfl <| zx_gR hy rfl e fun x2 _ e => zl hy 1 (pc2 := 15) (lv2 := [(0, .ref l0), (1, .int l1), (2, .int l2)]) (st2 := [.int (Int32.ofInt 2), .ref x2, .int l2]) rfl <| zx_aI hy (j := .iaload) (Or.inl ⟨rfl, rfl⟩) rfl e fun x3 _ e => zx_c hy rfl e (fun _ e => zl hy 1 (pc2 := 81) (lv2 := [(0, .ref l0), (1, .int l1), (2, .int l2)]) (st2 := [.ref l0]) rfl <| zx_call hy (as := [.ref l0]) (rest := []) (ov := (fun v => some (.int v))) (fun _ => rfl) rfl rfl (Or.inl rfl) rfl rfl (Nat.le_of_ble_eq_true rfl) (Nat.le_of_ble_eq_true rfl) (fun _ e _ => z_rcvT (rfM_takes N l0 h _ e)) (fun _ e => zt_deep (Nat.le_of_ble_eq_true rfl) (sfM_takes N l0 h _ e)) e fun x4 h5 _ e => zx_ret hy rfl rfl rfl rfl e) (fun _ e => zl hy 2 (pc2 := 21) (lv2 := [(0, .ref l0), (1, .int l1), (2, .int l2)]) (st2 := [.int l1, .ref l0]) rfl <| zx_call hy (as := [.ref l0, .int l1]) (rest := []) (ov := (fun v => some (.int v))) (fun _ => rfl) rfl rfl (Or.inl rfl) rfl rfl (Nat.le_of_ble_eq_true rfl) (Nat.le_of_ble_eq_true rfl) (fun _ e _ => z_rcvT (rfM_greatestBeside N l0 l1 h _ e)) (fun _ e => zt_deep (Nat.le_of_ble_eq_true rfl) (sfM_greatestBeside N l0 l1 h _ e)) e fun x6 h7 _ e => zl hy 9 (pc2 := 34) (lv2 := [(4, .int (Int32.ofInt 0)), (1, .int (l1 ||| ((Int32.ofInt 1) <<< (x6 &&& 31)))), (3, .int x6), (0, .ref l0), (2, .int l2)]) (st2 := []) rfl <| zt_sub (z_fc rfl (z_fc rfl (z_fc rfl (z_fc rfl (z_fc rfl (z_fn)))))) <| sfM_joins_34 N (fM_joins_9 N n ) ih N l0 (l1 ||| ((Int32.ofInt 1) <<< (x6 &&& 31))) l2 x6 (Int32.ofInt 0) h7 _ e)
def fM_joins (N : Nat) (l0 : Nat) (h : zH) : Option (Int32 × zH) := cond (fT h l0 5) (b1 (fS h l0 5 14 (.int (Int32.ofInt 0))) fun h1 => fM_joins_9 N N  l0 (Int32.ofInt 0) (Int32.ofInt 0) h1) none
theorem sfM_joins {xs : List Int32} (N : Nat) (l0 : Nat) (h : zH) (r : Int32 × zH) (e : fM_joins N l0 h = some r) : zt xs (4) 194 0 [(0, .ref l0)] [] h 0 0 (zQ cI r) := by
  have hy := mfM_joins
  unfold fM_joins at e
  replace e := (cond_some e).2
  exact zl hy 2 (pc2 := 2) (lv2 := [(0, .ref l0)]) (st2 := [.int (Int32.ofInt 0), .ref l0]) rfl <| zx_pf hy rfl e (rfl) fun h1 _ e => zl hy 4 (pc2 := 9) (lv2 := [(2, .int (Int32.ofInt 0)), (1, .int (Int32.ofInt 0)), (0, .ref l0)]) (st2 := []) rfl <| zt_sub (z_fc rfl (z_fc rfl (z_fc rfl (z_fn)))) <| sfM_joins_9 N   N l0 (Int32.ofInt 0) (Int32.ofInt 0) h1 _ e
theorem rfM_joins (N : Nat) (l0 : Nat) (h : zH) (r : Int32 × zH) (e : fM_joins N l0 h = some r) : fT h l0 5 = true := by
  unfold fM_joins at e
  exact (cond_some e).1
/-- LyndonBenchModel.canHave(I)Z -/
theorem mfM_canHave : z_me 195 zc_195 4 [] (some .boolean) := ⟨z_me0 rfl, rfl, rfl, rfl⟩
def fM_canHave_106 (N : Nat)  (s0 : Int32) (h : zH) : Option (Int32 × zH) := cond (decide (s0 = Int32.ofInt 0) || decide (s0 = Int32.ofInt 1)) (some (s0, h)) none
theorem sfM_canHave_106 {xs : List Int32} (N : Nat)   (s0 : Int32) (h : zH) (r : Int32 × zH) (e : fM_canHave_106 N  s0 h = some r) : zt xs (1) 195 106 [] [.int s0] h 0 0 (zQ cI r) := by
  have hy := mfM_canHave
  unfold fM_canHave_106 at e
  exact zx_retB hy rfl rfl e
def fM_canHave_86 (N : Nat) (k37 : Nat → Int32 → Int32 → Int32 → zH → Option (Int32 × zH)) (l0 : Nat) (l1 : Int32) (l3 : Int32) (s0 : Int32) (s1 : Int32) (h : zH) : Option (Int32 × zH) := k37 l0 l1 (if s1 < s0 then s0 else s1) (l3 + Int32.ofInt 1) h
theorem sfM_canHave_86 {xs : List Int32} (N : Nat) (k37 : Nat → Int32 → Int32 → Int32 → zH → Option (Int32 × zH))  (hk37 : ∀ (l0 : Nat) (l1 : Int32) (l2 : Int32) (l3 : Int32) (h : zH) (r : Int32 × zH), k37 l0 l1 l2 l3 h = some r → zt xs (1) 195 37 [(0, .ref l0), (1, .int l1), (2, .int l2), (3, .int l3)] [] h 0 0 (zQ cI r)) (l0 : Nat) (l1 : Int32) (l3 : Int32) (s0 : Int32) (s1 : Int32) (h : zH) (r : Int32 × zH) (e : fM_canHave_86 N k37 l0 l1 l3 s0 s1 h = some r) : zt xs (1) 195 86 [(0, .ref l0), (1, .int l1), (3, .int l3)] [.int s0, .int s1] h 0 0 (zQ cI r) := by
  have hy := mfM_canHave
  unfold fM_canHave_86 at e
  exact zx_max hy rfl (Nat.le_of_ble_eq_true rfl) <| zl hy 3 (pc2 := 37) (lv2 := [(3, .int (l3 + Int32.ofInt 1)), (2, .int (if s1 < s0 then s0 else s1)), (0, .ref l0), (1, .int l1)]) (st2 := []) rfl <| zt_sub (z_fc rfl (z_fc rfl (z_fc rfl (z_fc rfl (z_fn))))) <| hk37 l0 l1 (if s1 < s0 then s0 else s1) (l3 + Int32.ofInt 1) h _ e
def fM_canHave_37 (N : Nat) : Nat → Nat → Int32 → Int32 → Int32 → zH → Option (Int32 × zH)
  | 0, _, _, _, _, _ => none
  | n + 1, l0, l1, l2, l3, h => b1 (fR h l0 5 0) fun x3 => b1 (fAI h x3 100 (Int32.ofInt 2)) fun x4 => cond (z_cmp .ge l3 (x4 * (Int32.ofInt 40))) (cond (z_cmp .gt l2 l1) (fM_canHave_106 N  (Int32.ofInt 0) h) (fM_canHave_106 N  (Int32.ofInt 1) h)) ((if (Int32.ofInt 40) = Int32.ofInt 0 then none else b1 (fR h l0 5 0) fun x6 => (if (Int32.ofInt 40) = Int32.ofInt 0 then none else b1 (fAI h x6 100 ((Int32.ofInt 123) + (l3 / (Int32.ofInt 40)))) fun x8 => cond (z_cmp .ge (l3 - l3 / (Int32.ofInt 40) * (Int32.ofInt 40)) x8) (fM_canHave_86 N (fM_canHave_37 N n ) l0 l1 l3 (Int32.ofInt 0) l2 h) (b1 (fR h l0 5 0) fun x9 => b1 (fAI h x9 100 ((Int32.ofInt 131) + l3)) fun x10 => fM_canHave_86 N (fM_canHave_37 N n ) l0 l1 l3 (x10 + (Int32.ofInt 1)) l2 h))))
theorem sfM_canHave_37 {xs : List Int32} (N : Nat)   : ∀ (n : Nat) (l0 : Nat) (l1 : Int32) (l2 : Int32) (l3 : Int32) (h : zH) (r : Int32 × zH), fM_canHave_37 N n  l0 l1 l2 l3 h = some r → zt xs (1) 195 37 [(0, .ref l0), (1, .int l1), (2, .int l2), (3, .int l3)] [] h 0 0 (zQ cI r) := by
  have hy := mfM_canHave
  intro n
  induction n with
  | zero =>
    intro l0 l1 l2 l3 h r e
    rw [fM_canHave_37] at e
    cases e
  | succ n ih =>
    intro l0 l1 l2 l3 h r e
    rw [fM_canHave_37] at e
    exact zl hy 2 (pc2 := 39) (lv2 := [(0, .ref l0), (1, .int l1), (2, .int l2), (3, .int l3)]) (st2 := [.ref l0, .int l3]) rfl <| zx_gR hy rfl e fun x3 _ e => zl hy 1 (pc2 := 43) (lv2 := [(0, .ref l0), (1, .int l1), (2, .int l2), (3, .int l3)]) (st2 := [.int (Int32.ofInt 2), .ref x3, .int l3]) rfl <| zx_aI hy (j := .iaload) (Or.inl ⟨rfl, rfl⟩) rfl e fun x4 _ e => zx_bip hy (c := 40) rfl (by decide) <| zl hy 1 (pc2 := 47) (lv2 := [(0, .ref l0), (1, .int l1), (2, .int l2), (3, .int l3)]) (st2 := [.int (x4 * (Int32.ofInt 40)), .int l3]) rfl <| zx_c hy rfl e (fun _ e => zl hy 2 (pc2 := 98) (lv2 := [(0, .ref l0), (1, .int l1), (2, .int l2), (3, .int l3)]) (st2 := [.int l1, .int l2]) rfl <| zx_c hy rfl e (fun _ e => zl hy 1 (pc2 := 106) (lv2 := [(0, .ref l0), (1, .int l1), (2, .int l2), (3, .int l3)]) (st2 := [.int (Int32.ofInt 0)]) rfl <| zt_sub (z_fn) <| sfM_canHave_106 N   (Int32.ofInt 0) h _ e) (fun _ e => zl hy 2 (pc2 := 106) (lv2 := [(0, .ref l0), (1, .int l1), (2, .int l2), (3, .int l3)]) (st2 := [.int (Int32.ofInt 1)]) rfl <| zt_sub (z_fn) <| sfM_canHave_106 N   (Int32.ofInt 1) h _ e)) (fun _ e => zl hy 2 (pc2 := 52) (lv2 := [(0, .ref l0), (1, .int l1), (2, .int l2), (3, .int l3)]) (st2 := [.int l3, .int l2]) rfl <| zx_bip hy (c := 40) rfl (by decide) <| zx_rem hy (G := fun _ => b1 (fR h l0 5 0) fun x6 => (if (Int32.ofInt 40) = Int32.ofInt 0 then none else b1 (fAI h x6 100 ((Int32.ofInt 123) + (l3 / (Int32.ofInt 40)))) fun x8 => cond (z_cmp .ge (l3 - l3 / (Int32.ofInt 40) * (Int32.ofInt 40)) x8) (fM_canHave_86 N (fM_canHave_37 N n ) l0 l1 l3 (Int32.ofInt 0) l2 h) (b1 (fR h l0 5 0) fun x9 => b1 (fAI h x9 100 ((Int32.ofInt 131) + l3)) fun x10 => fM_canHave_86 N (fM_canHave_37 N n ) l0 l1 l3 (x10 + (Int32.ofInt 1)) l2 h))) rfl e fun _ e => zl hy 1 (pc2 := 56) (lv2 := [(0, .ref l0), (1, .int l1), (2, .int l2), (3, .int l3)]) (st2 := [.ref l0, .int (l3 - l3 / (Int32.ofInt 40) * (Int32.ofInt 40)), .int l2]) rfl <| zx_gR hy rfl e fun x6 _ e => zx_bip hy (c := 123) rfl (by decide) <| zl hy 1 (pc2 := 62) (lv2 := [(0, .ref l0), (1, .int l1), (2, .int l2), (3, .int l3)]) (st2 := [.int l3, .int (Int32.ofInt 123), .ref x6, .int (l3 - l3 / (Int32.ofInt 40) * (Int32.ofInt 40)), .int l2]) rfl <| zx_bip hy (c := 40) rfl (by decide) <| zx_div hy (G := fun _ => b1 (fAI h x6 100 ((Int32.ofInt 123) + (l3 / (Int32.ofInt 40)))) fun x8 => cond (z_cmp .ge (l3 - l3 / (Int32.ofInt 40) * (Int32.ofInt 40)) x8) (fM_canHave_86 N (fM_canHave_37 N n ) l0 l1 l3 (Int32.ofInt 0) l2 h) (b1 (fR h l0 5 0) fun x9 => b1 (fAI h x9 100 ((Int32.ofInt 131) + l3)) fun x10 => fM_canHave_86 N (fM_canHave_37 N n ) l0 l1 l3 (x10 + (Int32.ofInt 1)) l2 h)) rfl e fun _ e => zl hy 1 (pc2 := 66) (lv2 := [(0, .ref l0), (1, .int l1), (2, .int l2), (3, .int l3)]) (st2 := [.int ((Int32.ofInt 123) + (l3 / (Int32.ofInt 40))), .ref x6, .int (l3 - l3 / (Int32.ofInt 40) * (Int32.ofInt 40)), .int l2]) rfl <| zx_aI hy (j := .iaload) (Or.inl ⟨rfl, rfl⟩) rfl e fun x8 _ e => zx_c hy rfl e (fun _ e => zl hy 1 (pc2 := 86) (lv2 := [(0, .ref l0), (1, .int l1), (2, .int l2), (3, .int l3)]) (st2 := [.int (Int32.ofInt 0), .int l2]) rfl <| zt_sub (z_fc rfl (z_fc rfl (z_fc rfl (z_fn)))) <| sfM_canHave_86 N (fM_canHave_37 N n ) ih l0 l1 l3 (Int32.ofInt 0) l2 h _ e) (fun _ e => zl hy 1 (pc2 := 71) (lv2 := [(0, .ref l0), (1, .int l1), (2, .int l2), (3, .int l3)]) (st2 := [.ref l0, .int l2]) rfl <| zx_gR hy rfl e fun x9 _ e => zx_sip hy (c := 131) rfl (by decide) <| zl hy 2 (pc2 := 79) (lv2 := [(0, .ref l0), (1, .int l1), (2, .int l2), (3, .int l3)]) (st2 := [.int ((Int32.ofInt 131) + l3), .ref x9, .int l2]) rfl <| zx_aI hy (j := .iaload) (Or.inl ⟨rfl, rfl⟩) rfl e fun x10 _ e => zl hy 3 (pc2 := 86) (lv2 := [(0, .ref l0), (1, .int l1), (2, .int l2), (3, .int l3)]) (st2 := [.int (x10 + (Int32.ofInt 1)), .int l2]) rfl <| zt_sub (z_fc rfl (z_fc rfl (z_fc rfl (z_fn)))) <| sfM_canHave_86 N (fM_canHave_37 N n ) ih l0 l1 l3 (x10 + (Int32.ofInt 1)) l2 h _ e))
def fM_canHave_4 (N : Nat) : Nat → Nat → Int32 → Int32 → Int32 → zH → Option (Int32 × zH)
  | 0, _, _, _, _, _ => none
  | n + 1, l0, l1, l2, l3, h => b1 (fR h l0 5 0) fun x1 => b1 (fAI h x1 100 (Int32.ofInt 1)) fun x2 => cond (z_cmp .ge l3 x2) (fM_canHave_37 N N  l0 l1 l2 (Int32.ofInt 0) h) (b1 (fR h l0 5 0) fun x3 => b1 (fAI h x3 100 ((Int32.ofInt 3) + l3)) fun x4 => fM_canHave_4 N n  l0 l1 (if l2 < (x4 + (Int32.ofInt 1)) then (x4 + (Int32.ofInt 1)) else l2) (l3 + Int32.ofInt 1) h)
theorem sfM_canHave_4 {xs : List Int32} (N : Nat)   : ∀ (n : Nat) (l0 : Nat) (l1 : Int32) (l2 : Int32) (l3 : Int32) (h : zH) (r : Int32 × zH), fM_canHave_4 N n  l0 l1 l2 l3 h = some r → zt xs (1) 195 4 [(0, .ref l0), (1, .int l1), (2, .int l2), (3, .int l3)] [] h 0 0 (zQ cI r) := by
  have hy := mfM_canHave
  intro n
  induction n with
  | zero =>
    intro l0 l1 l2 l3 h r e
    rw [fM_canHave_4] at e
    cases e
  | succ n ih =>
    intro l0 l1 l2 l3 h r e
    rw [fM_canHave_4] at e
    exact zl hy 2 (pc2 := 6) (lv2 := [(0, .ref l0), (1, .int l1), (2, .int l2), (3, .int l3)]) (st2 := [.ref l0, .int l3]) rfl <| zx_gR hy rfl e fun x1 _ e => zl hy 1 (pc2 := 10) (lv2 := [(0, .ref l0), (1, .int l1), (2, .int l2), (3, .int l3)]) (st2 := [.int (Int32.ofInt 1), .ref x1, .int l3]) rfl <| zx_aI hy (j := .iaload) (Or.inl ⟨rfl, rfl⟩) rfl e fun x2 _ e => zx_c hy rfl e (fun _ e => zl hy 2 (pc2 := 37) (lv2 := [(3, .int (Int32.ofInt 0)), (0, .ref l0), (1, .int l1), (2, .int l2)]) (st2 := []) rfl <| zt_sub (z_fc rfl (z_fc rfl (z_fc rfl (z_fc rfl (z_fn))))) <| sfM_canHave_37 N   N l0 l1 l2 (Int32.ofInt 0) h _ e) (fun _ e => zl hy 2 (pc2 := 16) (lv2 := [(0, .ref l0), (1, .int l1), (2, .int l2), (3, .int l3)]) (st2 := [.ref l0, .int l2]) rfl <| zx_gR hy rfl e fun x3 _ e => zl hy 3 (pc2 := 22) (lv2 := [(0, .ref l0), (1, .int l1), (2, .int l2), (3, .int l3)]) (st2 := [.int ((Int32.ofInt 3) + l3), .ref x3, .int l2]) rfl <| zx_aI hy (j := .iaload) (Or.inl ⟨rfl, rfl⟩) rfl e fun x4 _ e => zl hy 2 (pc2 := 25) (lv2 := [(0, .ref l0), (1, .int l1), (2, .int l2), (3, .int l3)]) (st2 := [.int (x4 + (Int32.ofInt 1)), .int l2]) rfl <| zx_max hy rfl (Nat.le_of_ble_eq_true rfl) <| zl hy 3 (pc2 := 4) (lv2 := [(3, .int (l3 + Int32.ofInt 1)), (2, .int (if l2 < (x4 + (Int32.ofInt 1)) then (x4 + (Int32.ofInt 1)) else l2)), (0, .ref l0), (1, .int l1)]) (st2 := []) rfl <| zt_sub (z_fc rfl (z_fc rfl (z_fc rfl (z_fc rfl (z_fn))))) <| ih l0 l1 (if l2 < (x4 + (Int32.ofInt 1)) then (x4 + (Int32.ofInt 1)) else l2) (l3 + Int32.ofInt 1) h _ e)
def fM_canHave (N : Nat) (l0 : Nat) (l1 : Int32) (h : zH) : Option (Int32 × zH) := cond (fT h l0 5) (fM_canHave_4 N N  l0 l1 (Int32.ofInt 0) (Int32.ofInt 0) h) none
theorem sfM_canHave {xs : List Int32} (N : Nat) (l0 : Nat) (l1 : Int32) (h : zH) (r : Int32 × zH) (e : fM_canHave N l0 l1 h = some r) : zt xs (1) 195 0 [(0, .ref l0), (1, .int l1)] [] h 0 0 (zQ cI r) := by
  have hy := mfM_canHave
  unfold fM_canHave at e
  replace e := (cond_some e).2
  exact zl hy 4 (pc2 := 4) (lv2 := [(3, .int (Int32.ofInt 0)), (2, .int (Int32.ofInt 0)), (0, .ref l0), (1, .int l1)]) (st2 := []) rfl <| zt_sub (z_fc rfl (z_fc rfl (z_fc rfl (z_fc rfl (z_fn))))) <| sfM_canHave_4 N   N l0 l1 (Int32.ofInt 0) (Int32.ofInt 0) h _ e
theorem rfM_canHave (N : Nat) (l0 : Nat) (l1 : Int32) (h : zH) (r : Int32 × zH) (e : fM_canHave N l0 l1 h = some r) : fT h l0 5 = true := by
  unfold fM_canHave at e
  exact (cond_some e).1
/-- LyndonBenchModel.tell(Ljava/lang/String;)V -/
theorem mfM_tell : z_me 196 zc_196 3 [] none := ⟨z_me0 rfl, rfl, rfl, rfl⟩
def fM_tell_2 (N : Nat) : Nat → Nat → Nat → Int32 → zH → Option (Unit × zH)
  | 0, _, _, _, _ => none
  | n + 1, l0, l1, l2, h => b2 (fJ_length N l1 h) fun x1 h2 => cond (z_cmp .ge l2 x1) (some ((), h2)) (b1 (fR h2 l0 5 7) fun x3 => b1 (fI h2 l0 5 11) fun x4 => b2 (fJ_charAt N l1 l2 h2) fun x5 h6 => b1 (fAS h6 x3 100 x4 (.int x5)) fun h7 => b1 (fI h7 l0 5 11) fun x8 => b1 (fS h7 l0 5 11 (.int (x8 + (Int32.ofInt 1)))) fun h9 => fM_tell_2 N n  l0 l1 (l2 + Int32.ofInt 1) h9)
theorem sfM_tell_2 {xs : List Int32} (N : Nat)   : ∀ (n : Nat) (l0 : Nat) (l1 : Nat) (l2 : Int32) (h : zH) (r : Unit × zH), fM_tell_2 N n  l0 l1 l2 h = some r → zt xs (5) 196 2 [(0, .ref l0), (1, .ref l1), (2, .int l2)] [] h 0 0 (zQ cV r) := by
  have hy := mfM_tell
  intro n
  induction n with
  | zero =>
    intro l0 l1 l2 h r e
    rw [fM_tell_2] at e
    cases e
  | succ n ih =>
    intro l0 l1 l2 h r e
    rw [fM_tell_2] at e
    exact zl hy 2 (pc2 := 4) (lv2 := [(0, .ref l0), (1, .ref l1), (2, .int l2)]) (st2 := [.ref l1, .int l2]) rfl <| zx_call hy (as := [.ref l1]) (rest := [.int l2]) (ov := (fun v => some (.int v))) (fun _ => rfl) rfl rfl (Or.inl rfl) rfl rfl (Nat.le_of_ble_eq_true rfl) (Nat.le_of_ble_eq_true rfl) (fun _ e _ => z_rcvT (rfJ_length N l1 h _ e)) (fun _ e => zt_deep (Nat.le_of_ble_eq_true rfl) (sfJ_length N l1 h _ e)) e fun x1 h2 _ e => zx_c hy rfl e (fun _ e => zx_retV hy rfl rfl e) (fun _ e => zl hy 1 (pc2 := 11) (lv2 := [(0, .ref l0), (1, .ref l1), (2, .int l2)]) (st2 := [.ref l0]) rfl <| zx_gR hy rfl e fun x3 _ e => zl hy 1 (pc2 := 15) (lv2 := [(0, .ref l0), (1, .ref l1), (2, .int l2)]) (st2 := [.ref l0, .ref x3]) rfl <| zx_gI hy rfl e fun x4 _ e => zl hy 2 (pc2 := 20) (lv2 := [(0, .ref l0), (1, .ref l1), (2, .int l2)]) (st2 := [.int l2, .ref l1, .int x4, .ref x3]) rfl <| zx_call hy (as := [.ref l1, .int l2]) (rest := [.int x4, .ref x3]) (ov := (fun v => some (.int v))) (fun _ => rfl) rfl rfl (Or.inl rfl) rfl rfl (Nat.le_of_ble_eq_true rfl) (Nat.le_of_ble_eq_true rfl) (fun _ e _ => z_rcvT (rfJ_charAt N l1 l2 h2 _ e)) (fun _ e => zt_deep (Nat.le_of_ble_eq_true rfl) (sfJ_charAt N l1 l2 h2 _ e)) e fun x5 h6 _ e => zx_sI hy (j := .iastore) (Or.inl ⟨rfl, rfl, rfl⟩) rfl e fun h7 _ e => zl hy 2 (pc2 := 26) (lv2 := [(0, .ref l0), (1, .ref l1), (2, .int l2)]) (st2 := [.ref l0, .ref l0]) rfl <| zx_gI hy rfl e fun x8 _ e => zl hy 2 (pc2 := 31) (lv2 := [(0, .ref l0), (1, .ref l1), (2, .int l2)]) (st2 := [.int (x8 + (Int32.ofInt 1)), .ref l0]) rfl <| zx_pf hy rfl e (rfl) fun h9 _ e => zl hy 2 (pc2 := 2) (lv2 := [(2, .int (l2 + Int32.ofInt 1)), (0, .ref l0), (1, .ref l1)]) (st2 := []) rfl <| zt_sub (z_fc rfl (z_fc rfl (z_fc rfl (z_fn)))) <| ih l0 l1 (l2 + Int32.ofInt 1) h9 _ e)
def fM_tell (N : Nat) (l0 : Nat) (l1 : Nat) (h : zH) : Option (Unit × zH) := cond (fT h l0 5) (fM_tell_2 N N  l0 l1 (Int32.ofInt 0) h) none
theorem sfM_tell {xs : List Int32} (N : Nat) (l0 : Nat) (l1 : Nat) (h : zH) (r : Unit × zH) (e : fM_tell N l0 l1 h = some r) : zt xs (5) 196 0 [(0, .ref l0), (1, .ref l1)] [] h 0 0 (zQ cV r) := by
  have hy := mfM_tell
  unfold fM_tell at e
  replace e := (cond_some e).2
  exact zl hy 2 (pc2 := 2) (lv2 := [(2, .int (Int32.ofInt 0)), (0, .ref l0), (1, .ref l1)]) (st2 := []) rfl <| zt_sub (z_fc rfl (z_fc rfl (z_fc rfl (z_fn)))) <| sfM_tell_2 N   N l0 l1 (Int32.ofInt 0) h _ e
theorem rfM_tell (N : Nat) (l0 : Nat) (l1 : Nat) (h : zH) (r : Unit × zH) (e : fM_tell N l0 l1 h = some r) : fT h l0 5 = true := by
  unfold fM_tell at e
  exact (cond_some e).1
/-- LyndonBenchModel.sortOf(I)I -/
theorem mfM_sortOf : z_me 197 zc_197 1 [] (some .int) := ⟨z_me0 rfl, rfl, rfl, rfl⟩
def fM_sortOf_64 (N : Nat)  (s0 : Int32) (h : zH) : Option (Int32 × zH) := some (s0, h)
theorem sfM_sortOf_64 {xs : List Int32} (N : Nat)   (s0 : Int32) (h : zH) (r : Int32 × zH) (e : fM_sortOf_64 N  s0 h = some r) : zt xs (1) 197 64 [] [.int s0] h 0 0 (zQ cI r) := by
  have hy := mfM_sortOf
  unfold fM_sortOf_64 at e
  exact zx_ret hy rfl rfl rfl rfl e
def fM_sortOf_42 (N : Nat)  (l0 : Int32) (h : zH) : Option (Int32 × zH) := cond (z_cmp .ne l0 (Int32.ofInt 40)) (cond (z_cmp .ne l0 (Int32.ofInt 41)) (fM_sortOf_64 N  (Int32.ofInt 6) h) (fM_sortOf_64 N  (Int32.ofInt 5) h)) (fM_sortOf_64 N  (Int32.ofInt 4) h)
theorem sfM_sortOf_42 {xs : List Int32} (N : Nat)   (l0 : Int32) (h : zH) (r : Int32 × zH) (e : fM_sortOf_42 N  l0 h = some r) : zt xs (1) 197 42 [(0, .int l0)] [] h 0 0 (zQ cI r) := by
  have hy := mfM_sortOf
  unfold fM_sortOf_42 at e
  exact zl hy 1 (pc2 := 43) (lv2 := [(0, .int l0)]) (st2 := [.int l0]) rfl <| zx_bip hy (c := 40) rfl (by decide) <| zx_c hy rfl e (fun _ e => zl hy 1 (pc2 := 53) (lv2 := [(0, .int l0)]) (st2 := [.int l0]) rfl <| zx_bip hy (c := 41) rfl (by decide) <| zx_c hy rfl e (fun _ e => zx_bip hy (c := 6) rfl (by decide) <| zt_sub (z_fn) <| sfM_sortOf_64 N   (Int32.ofInt 6) h _ e) (fun _ e => zl hy 2 (pc2 := 64) (lv2 := [(0, .int l0)]) (st2 := [.int (Int32.ofInt 5)]) rfl <| zt_sub (z_fn) <| sfM_sortOf_64 N   (Int32.ofInt 5) h _ e)) (fun _ e => zl hy 2 (pc2 := 64) (lv2 := [(0, .int l0)]) (st2 := [.int (Int32.ofInt 4)]) rfl <| zt_sub (z_fn) <| sfM_sortOf_64 N   (Int32.ofInt 4) h _ e)
def fM_sortOf_26 (N : Nat)  (l0 : Int32) (h : zH) : Option (Int32 × zH) := cond (z_cmp .lt l0 (Int32.ofInt 48)) (fM_sortOf_42 N  l0 h) (cond (z_cmp .gt l0 (Int32.ofInt 57)) (fM_sortOf_42 N  l0 h) (fM_sortOf_64 N  (Int32.ofInt 3) h))
theorem sfM_sortOf_26 {xs : List Int32} (N : Nat)   (l0 : Int32) (h : zH) (r : Int32 × zH) (e : fM_sortOf_26 N  l0 h = some r) : zt xs (1) 197 26 [(0, .int l0)] [] h 0 0 (zQ cI r) := by
  have hy := mfM_sortOf
  unfold fM_sortOf_26 at e
  exact zl hy 1 (pc2 := 27) (lv2 := [(0, .int l0)]) (st2 := [.int l0]) rfl <| zx_bip hy (c := 48) rfl (by decide) <| zx_c hy rfl e (fun _ e => zt_sub (z_fc rfl (z_fn)) <| sfM_sortOf_42 N   l0 h _ e) (fun _ e => zl hy 1 (pc2 := 33) (lv2 := [(0, .int l0)]) (st2 := [.int l0]) rfl <| zx_bip hy (c := 57) rfl (by decide) <| zx_c hy rfl e (fun _ e => zt_sub (z_fc rfl (z_fn)) <| sfM_sortOf_42 N   l0 h _ e) (fun _ e => zl hy 2 (pc2 := 64) (lv2 := [(0, .int l0)]) (st2 := [.int (Int32.ofInt 3)]) rfl <| zt_sub (z_fn) <| sfM_sortOf_64 N   (Int32.ofInt 3) h _ e))
def fM_sortOf (N : Nat) (l0 : Int32) (h : zH) : Option (Int32 × zH) := cond (z_cmp .ne l0 (Int32.ofInt 59)) (cond (z_cmp .lt l0 (Int32.ofInt 97)) (fM_sortOf_26 N  l0 h) (cond (z_cmp .gt l0 (Int32.ofInt 122)) (fM_sortOf_26 N  l0 h) (fM_sortOf_64 N  (Int32.ofInt 2) h))) (fM_sortOf_64 N  (Int32.ofInt 1) h)
theorem sfM_sortOf {xs : List Int32} (N : Nat) (l0 : Int32) (h : zH) (r : Int32 × zH) (e : fM_sortOf N l0 h = some r) : zt xs (1) 197 0 [(0, .int l0)] [] h 0 0 (zQ cI r) := by
  have hy := mfM_sortOf
  unfold fM_sortOf at e
  exact zl hy 1 (pc2 := 1) (lv2 := [(0, .int l0)]) (st2 := [.int l0]) rfl <| zx_bip hy (c := 59) rfl (by decide) <| zx_c hy rfl e (fun _ e => zl hy 1 (pc2 := 11) (lv2 := [(0, .int l0)]) (st2 := [.int l0]) rfl <| zx_bip hy (c := 97) rfl (by decide) <| zx_c hy rfl e (fun _ e => zt_sub (z_fc rfl (z_fn)) <| sfM_sortOf_26 N   l0 h _ e) (fun _ e => zl hy 1 (pc2 := 17) (lv2 := [(0, .int l0)]) (st2 := [.int l0]) rfl <| zx_bip hy (c := 122) rfl (by decide) <| zx_c hy rfl e (fun _ e => zt_sub (z_fc rfl (z_fn)) <| sfM_sortOf_26 N   l0 h _ e) (fun _ e => zl hy 2 (pc2 := 64) (lv2 := [(0, .int l0)]) (st2 := [.int (Int32.ofInt 2)]) rfl <| zt_sub (z_fn) <| sfM_sortOf_64 N   (Int32.ofInt 2) h _ e))) (fun _ e => zl hy 2 (pc2 := 64) (lv2 := [(0, .int l0)]) (st2 := [.int (Int32.ofInt 1)]) rfl <| zt_sub (z_fn) <| sfM_sortOf_64 N   (Int32.ofInt 1) h _ e)
/-- LyndonBenchModel.next()V -/
theorem mfM_next : z_me 198 zc_198 2 [] none := ⟨z_me0 rfl, rfl, rfl, rfl⟩
def fM_next_207 (N : Nat) : Nat → Nat → Int32 → zH → Option (Unit × zH)
  | 0, _, _, _ => none
  | n + 1, l0, l1, h => b1 (fI h l0 5 20) fun x23 => cond (z_cmp .ge l1 x23) (some ((), h)) (b1 (fI h l0 5 18) fun x24 => cond (z_cmp .ne x24 (Int32.ofInt 3)) (some ((), h)) (b1 (fI h l0 5 21) fun x25 => b1 (fR h l0 5 7) fun x26 => b1 (fAI h x26 100 l1) fun x27 => b1 (fS h l0 5 21 (.int ((((Int32.ofInt 10) * x25) + x27) - (Int32.ofInt 48)))) fun h28 => fM_next_207 N n  l0 (l1 + Int32.ofInt 1) h28))
theorem sfM_next_207 {xs : List Int32} (N : Nat)   : ∀ (n : Nat) (l0 : Nat) (l1 : Int32) (h : zH) (r : Unit × zH), fM_next_207 N n  l0 l1 h = some r → zt xs (2) 198 207 [(0, .ref l0), (1, .int l1)] [] h 0 0 (zQ cV r) := by
  have hy := mfM_next
  intro n
  induction n with
  | zero =>
    intro l0 l1 h r e
    rw [fM_next_207] at e
    cases e
  | succ n ih =>
    intro l0 l1 h r e
    rw [fM_next_207] at e
    exact zl hy 2 (pc2 := 209) (lv2 := [(0, .ref l0), (1, .int l1)]) (st2 := [.ref l0, .int l1]) rfl <| zx_gI hy rfl e fun x23 _ e => zx_c hy rfl e (fun _ e => zx_retV hy rfl rfl e) (fun _ e => zl hy 1 (pc2 := 216) (lv2 := [(0, .ref l0), (1, .int l1)]) (st2 := [.ref l0]) rfl <| zx_gI hy rfl e fun x24 _ e => zl hy 1 (pc2 := 220) (lv2 := [(0, .ref l0), (1, .int l1)]) (st2 := [.int (Int32.ofInt 3), .int x24]) rfl <| zx_c hy rfl e (fun _ e => zx_retV hy rfl rfl e) (fun _ e => zl hy 1 (pc2 := 224) (lv2 := [(0, .ref l0), (1, .int l1)]) (st2 := [.ref l0]) rfl <| zx_bip hy (c := 10) rfl (by decide) <| zl hy 1 (pc2 := 227) (lv2 := [(0, .ref l0), (1, .int l1)]) (st2 := [.ref l0, .int (Int32.ofInt 10), .ref l0]) rfl <| zx_gI hy rfl e fun x25 _ e => zl hy 2 (pc2 := 232) (lv2 := [(0, .ref l0), (1, .int l1)]) (st2 := [.ref l0, .int ((Int32.ofInt 10) * x25), .ref l0]) rfl <| zx_gR hy rfl e fun x26 _ e => zl hy 1 (pc2 := 236) (lv2 := [(0, .ref l0), (1, .int l1)]) (st2 := [.int l1, .ref x26, .int ((Int32.ofInt 10) * x25), .ref l0]) rfl <| zx_aI hy (j := .iaload) (Or.inl ⟨rfl, rfl⟩) rfl e fun x27 _ e => zl hy 1 (pc2 := 238) (lv2 := [(0, .ref l0), (1, .int l1)]) (st2 := [.int (((Int32.ofInt 10) * x25) + x27), .ref l0]) rfl <| zx_bip hy (c := 48) rfl (by decide) <| zl hy 1 (pc2 := 241) (lv2 := [(0, .ref l0), (1, .int l1)]) (st2 := [.int ((((Int32.ofInt 10) * x25) + x27) - (Int32.ofInt 48)), .ref l0]) rfl <| zx_pf hy rfl e (rfl) fun h28 _ e => zl hy 2 (pc2 := 207) (lv2 := [(1, .int (l1 + Int32.ofInt 1)), (0, .ref l0)]) (st2 := []) rfl <| zt_sub (z_fc rfl (z_fc rfl (z_fn))) <| ih l0 (l1 + Int32.ofInt 1) h28 _ e))
def fM_next_197 (N : Nat)  (l0 : Nat) (h : zH) : Option (Unit × zH) := b1 (fS h l0 5 21 (.int (Int32.ofInt 0))) fun h21 => b1 (fI h21 l0 5 19) fun x22 => fM_next_207 N N  l0 x22 h21
theorem sfM_next_197 {xs : List Int32} (N : Nat)   (l0 : Nat) (h : zH) (r : Unit × zH) (e : fM_next_197 N  l0 h = some r) : zt xs (2) 198 197 [(0, .ref l0)] [] h 0 0 (zQ cV r) := by
  have hy := mfM_next
  unfold fM_next_197 at e
  exact zl hy 2 (pc2 := 199) (lv2 := [(0, .ref l0)]) (st2 := [.int (Int32.ofInt 0), .ref l0]) rfl <| zx_pf hy rfl e (rfl) fun h21 _ e => zl hy 1 (pc2 := 203) (lv2 := [(0, .ref l0)]) (st2 := [.ref l0]) rfl <| zx_gI hy rfl e fun x22 _ e => zl hy 1 (pc2 := 207) (lv2 := [(1, .int x22), (0, .ref l0)]) (st2 := []) rfl <| zt_sub (z_fc rfl (z_fc rfl (z_fn))) <| sfM_next_207 N   N l0 x22 h21 _ e
def fM_next_170 (N : Nat)  (l0 : Nat) (h : zH) : Option (Unit × zH) := b1 (fI h l0 5 18) fun x20 => cond (z_cmp .ne x20 (Int32.ofInt 3)) (fM_next_197 N  l0 h) (b1 (fI h l0 5 20) fun x21 => b1 (fI h l0 5 19) fun x22 => cond (z_cmp .le (x21 - x22) (Int32.ofInt 3)) (fM_next_197 N  l0 h) (b1 (fS h l0 5 18 (.int (Int32.ofInt 6))) fun h23 => fM_next_197 N  l0 h23))
theorem sfM_next_170 {xs : List Int32} (N : Nat)   (l0 : Nat) (h : zH) (r : Unit × zH) (e : fM_next_170 N  l0 h = some r) : zt xs (2) 198 170 [(0, .ref l0)] [] h 0 0 (zQ cV r) := by
  have hy := mfM_next
  unfold fM_next_170 at e
  exact zl hy 1 (pc2 := 171) (lv2 := [(0, .ref l0)]) (st2 := [.ref l0]) rfl <| zx_gI hy rfl e fun x20 _ e => zl hy 1 (pc2 := 175) (lv2 := [(0, .ref l0)]) (st2 := [.int (Int32.ofInt 3), .int x20]) rfl <| zx_c hy rfl e (fun _ e => zt_sub (z_fc rfl (z_fn)) <| sfM_next_197 N   l0 h _ e) (fun _ e => zl hy 1 (pc2 := 179) (lv2 := [(0, .ref l0)]) (st2 := [.ref l0]) rfl <| zx_gI hy rfl e fun x21 _ e => zl hy 1 (pc2 := 183) (lv2 := [(0, .ref l0)]) (st2 := [.ref l0, .int x21]) rfl <| zx_gI hy rfl e fun x22 _ e => zl hy 2 (pc2 := 188) (lv2 := [(0, .ref l0)]) (st2 := [.int (Int32.ofInt 3), .int (x21 - x22)]) rfl <| zx_c hy rfl e (fun _ e => zt_sub (z_fc rfl (z_fn)) <| sfM_next_197 N   l0 h _ e) (fun _ e => zl hy 1 (pc2 := 192) (lv2 := [(0, .ref l0)]) (st2 := [.ref l0]) rfl <| zx_bip hy (c := 6) rfl (by decide) <| zx_pf hy rfl e (rfl) fun h23 _ e => zt_sub (z_fc rfl (z_fn)) <| sfM_next_197 N   l0 h23 _ e))
def fM_next_127 (N : Nat) (k111 : Nat → zH → Option (Unit × zH)) (l0 : Nat) (h : zH) : Option (Unit × zH) := b1 (fI h l0 5 20) fun x18 => b1 (fI h l0 5 11) fun x19 => cond (z_cmp .ge x18 x19) (fM_next_170 N  l0 h) (b1 (fR h l0 5 7) fun x20 => b1 (fI h l0 5 20) fun x21 => b1 (fAI h x20 100 x21) fun x22 => b2 (fM_sortOf N x22 h) fun x23 h24 => b1 (fI h24 l0 5 18) fun x25 => cond (z_cmp .ne x23 x25) (fM_next_170 N  l0 h24) (b1 (fI h24 l0 5 20) fun x26 => b1 (fS h24 l0 5 20 (.int (x26 + (Int32.ofInt 1)))) fun h27 => k111 l0 h27))
theorem sfM_next_127 {xs : List Int32} (N : Nat) (k111 : Nat → zH → Option (Unit × zH))  (hk111 : ∀ (l0 : Nat) (h : zH) (r : Unit × zH), k111 l0 h = some r → zt xs (2) 198 111 [(0, .ref l0)] [] h 0 0 (zQ cV r)) (l0 : Nat) (h : zH) (r : Unit × zH) (e : fM_next_127 N k111 l0 h = some r) : zt xs (2) 198 127 [(0, .ref l0)] [] h 0 0 (zQ cV r) := by
  have hy := mfM_next
  unfold fM_next_127 at e
  exact zl hy 1 (pc2 := 128) (lv2 := [(0, .ref l0)]) (st2 := [.ref l0]) rfl <| zx_gI hy rfl e fun x18 _ e => zl hy 1 (pc2 := 132) (lv2 := [(0, .ref l0)]) (st2 := [.ref l0, .int x18]) rfl <| zx_gI hy rfl e fun x19 _ e => zx_c hy rfl e (fun _ e => zt_sub (z_fc rfl (z_fn)) <| sfM_next_170 N   l0 h _ e) (fun _ e => zl hy 1 (pc2 := 139) (lv2 := [(0, .ref l0)]) (st2 := [.ref l0]) rfl <| zx_gR hy rfl e fun x20 _ e => zl hy 1 (pc2 := 143) (lv2 := [(0, .ref l0)]) (st2 := [.ref l0, .ref x20]) rfl <| zx_gI hy rfl e fun x21 _ e => zx_aI hy (j := .iaload) (Or.inl ⟨rfl, rfl⟩) rfl e fun x22 _ e => zx_call hy (as := [.int x22]) (rest := []) (ov := (fun v => some (.int v))) (fun _ => rfl) rfl rfl (Or.inr (Or.inl rfl)) rfl rfl (Nat.le_of_ble_eq_true rfl) (Nat.le_of_ble_eq_true rfl) (fun _ _ hz => absurd rfl hz) (fun _ e => zt_deep (Nat.le_of_ble_eq_true rfl) (sfM_sortOf N x22 h _ e)) e fun x23 h24 _ e => zl hy 1 (pc2 := 151) (lv2 := [(0, .ref l0)]) (st2 := [.ref l0, .int x23]) rfl <| zx_gI hy rfl e fun x25 _ e => zx_c hy rfl e (fun _ e => zt_sub (z_fc rfl (z_fn)) <| sfM_next_170 N   l0 h24 _ e) (fun _ e => zl hy 2 (pc2 := 159) (lv2 := [(0, .ref l0)]) (st2 := [.ref l0, .ref l0]) rfl <| zx_gI hy rfl e fun x26 _ e => zl hy 2 (pc2 := 164) (lv2 := [(0, .ref l0)]) (st2 := [.int (x26 + (Int32.ofInt 1)), .ref l0]) rfl <| zx_pf hy rfl e (rfl) fun h27 _ e => zl hy 1 (pc2 := 111) (lv2 := [(0, .ref l0)]) (st2 := []) rfl <| zt_sub (z_fc rfl (z_fn)) <| hk111 l0 h27 _ e))
def fM_next_111 (N : Nat) : Nat → Nat → zH → Option (Unit × zH)
  | 0, _, _ => none
  | n + 1, l0, h => b1 (fI h l0 5 18) fun x17 => cond (z_cmp .eq x17 (Int32.ofInt 2)) (fM_next_127 N (fM_next_111 N n ) l0 h) (b1 (fI h l0 5 18) fun x18 => cond (z_cmp .ne x18 (Int32.ofInt 3)) (fM_next_170 N  l0 h) (fM_next_127 N (fM_next_111 N n ) l0 h))
theorem sfM_next_111 {xs : List Int32} (N : Nat)   : ∀ (n : Nat) (l0 : Nat) (h : zH) (r : Unit × zH), fM_next_111 N n  l0 h = some r → zt xs (2) 198 111 [(0, .ref l0)] [] h 0 0 (zQ cV r) := by
  have hy := mfM_next
  intro n
  induction n with
  | zero =>
    intro l0 h r e
    rw [fM_next_111] at e
    cases e
  | succ n ih =>
    intro l0 h r e
    rw [fM_next_111] at e
    exact zl hy 1 (pc2 := 112) (lv2 := [(0, .ref l0)]) (st2 := [.ref l0]) rfl <| zx_gI hy rfl e fun x17 _ e => zl hy 1 (pc2 := 116) (lv2 := [(0, .ref l0)]) (st2 := [.int (Int32.ofInt 2), .int x17]) rfl <| zx_c hy rfl e (fun _ e => zt_sub (z_fc rfl (z_fn)) <| sfM_next_127 N (fM_next_111 N n ) ih l0 h _ e) (fun _ e => zl hy 1 (pc2 := 120) (lv2 := [(0, .ref l0)]) (st2 := [.ref l0]) rfl <| zx_gI hy rfl e fun x18 _ e => zl hy 1 (pc2 := 124) (lv2 := [(0, .ref l0)]) (st2 := [.int (Int32.ofInt 3), .int x18]) rfl <| zx_c hy rfl e (fun _ e => zt_sub (z_fc rfl (z_fn)) <| sfM_next_170 N   l0 h _ e) (fun _ e => zt_sub (z_fc rfl (z_fn)) <| sfM_next_127 N (fM_next_111 N n ) ih l0 h _ e))
def fM_next_60 (N : Nat)  (l0 : Nat) (h : zH) : Option (Unit × zH) := b1 (fI h l0 5 19) fun x5 => b1 (fS h l0 5 20 (.int x5)) fun h6 => b1 (fI h6 l0 5 19) fun x7 => b1 (fI h6 l0 5 11) fun x8 => cond (z_cmp .ne x7 x8) (b1 (fR h6 l0 5 7) fun x9 => b1 (fI h6 l0 5 19) fun x10 => b1 (fAI h6 x9 100 x10) fun x11 => b2 (fM_sortOf N x11 h6) fun x12 h13 => b1 (fS h13 l0 5 18 (.int x12)) fun h14 => b1 (fI h14 l0 5 20) fun x15 => b1 (fS h14 l0 5 20 (.int (x15 + (Int32.ofInt 1)))) fun h16 => fM_next_111 N N  l0 h16) (b1 (fS h6 l0 5 18 (.int (Int32.ofInt 0))) fun h17 => some ((), h17))
theorem sfM_next_60 {xs : List Int32} (N : Nat)   (l0 : Nat) (h : zH) (r : Unit × zH) (e : fM_next_60 N  l0 h = some r) : zt xs (2) 198 60 [(0, .ref l0)] [] h 0 0 (zQ cV r) := by
  have hy := mfM_next
  unfold fM_next_60 at e
  exact zl hy 2 (pc2 := 62) (lv2 := [(0, .ref l0)]) (st2 := [.ref l0, .ref l0]) rfl <| zx_gI hy rfl e fun x5 _ e => zx_pf hy rfl e (rfl) fun h6 _ e => zl hy 1 (pc2 := 69) (lv2 := [(0, .ref l0)]) (st2 := [.ref l0]) rfl <| zx_gI hy rfl e fun x7 _ e => zl hy 1 (pc2 := 73) (lv2 := [(0, .ref l0)]) (st2 := [.ref l0, .int x7]) rfl <| zx_gI hy rfl e fun x8 _ e => zx_c hy rfl e (fun _ e => zl hy 2 (pc2 := 87) (lv2 := [(0, .ref l0)]) (st2 := [.ref l0, .ref l0]) rfl <| zx_gR hy rfl e fun x9 _ e => zl hy 1 (pc2 := 91) (lv2 := [(0, .ref l0)]) (st2 := [.ref l0, .ref x9, .ref l0]) rfl <| zx_gI hy rfl e fun x10 _ e => zx_aI hy (j := .iaload) (Or.inl ⟨rfl, rfl⟩) rfl e fun x11 _ e => zx_call hy (as := [.int x11]) (rest := [.ref l0]) (ov := (fun v => some (.int v))) (fun _ => rfl) rfl rfl (Or.inr (Or.inl rfl)) rfl rfl (Nat.le_of_ble_eq_true rfl) (Nat.le_of_ble_eq_true rfl) (fun _ _ hz => absurd rfl hz) (fun _ e => zt_deep (Nat.le_of_ble_eq_true rfl) (sfM_sortOf N x11 h6 _ e)) e fun x12 h13 _ e => zx_pf hy rfl e (rfl) fun h14 _ e => zl hy 2 (pc2 := 103) (lv2 := [(0, .ref l0)]) (st2 := [.ref l0, .ref l0]) rfl <| zx_gI hy rfl e fun x15 _ e => zl hy 2 (pc2 := 108) (lv2 := [(0, .ref l0)]) (st2 := [.int (x15 + (Int32.ofInt 1)), .ref l0]) rfl <| zx_pf hy rfl e (rfl) fun h16 _ e => zt_sub (z_fc rfl (z_fn)) <| sfM_next_111 N   N l0 h16 _ e) (fun _ e => zl hy 2 (pc2 := 81) (lv2 := [(0, .ref l0)]) (st2 := [.int (Int32.ofInt 0), .ref l0]) rfl <| zx_pf hy rfl e (rfl) fun h17 _ e => zx_retV hy rfl rfl e)
def fM_next_47 (N : Nat) (k8 : Nat → zH → Option (Unit × zH)) (l0 : Nat) (h : zH) : Option (Unit × zH) := b1 (fI h l0 5 19) fun x8 => b1 (fS h l0 5 19 (.int (x8 + (Int32.ofInt 1)))) fun h9 => k8 l0 h9
theorem sfM_next_47 {xs : List Int32} (N : Nat) (k8 : Nat → zH → Option (Unit × zH))  (hk8 : ∀ (l0 : Nat) (h : zH) (r : Unit × zH), k8 l0 h = some r → zt xs (2) 198 8 [(0, .ref l0)] [] h 0 0 (zQ cV r)) (l0 : Nat) (h : zH) (r : Unit × zH) (e : fM_next_47 N k8 l0 h = some r) : zt xs (2) 198 47 [(0, .ref l0)] [] h 0 0 (zQ cV r) := by
  have hy := mfM_next
  unfold fM_next_47 at e
  exact zl hy 2 (pc2 := 49) (lv2 := [(0, .ref l0)]) (st2 := [.ref l0, .ref l0]) rfl <| zx_gI hy rfl e fun x8 _ e => zl hy 2 (pc2 := 54) (lv2 := [(0, .ref l0)]) (st2 := [.int (x8 + (Int32.ofInt 1)), .ref l0]) rfl <| zx_pf hy rfl e (rfl) fun h9 _ e => zl hy 1 (pc2 := 8) (lv2 := [(0, .ref l0)]) (st2 := []) rfl <| zt_sub (z_fc rfl (z_fn)) <| hk8 l0 h9 _ e
def fM_next_8 (N : Nat) : Nat → Nat → zH → Option (Unit × zH)
  | 0, _, _ => none
  | n + 1, l0, h => b1 (fI h l0 5 19) fun x3 => b1 (fI h l0 5 11) fun x4 => cond (z_cmp .ge x3 x4) (fM_next_60 N  l0 h) (b1 (fR h l0 5 7) fun x5 => b1 (fI h l0 5 19) fun x6 => b1 (fAI h x5 100 x6) fun x7 => cond (z_cmp .eq x7 (Int32.ofInt 32)) (fM_next_47 N (fM_next_8 N n ) l0 h) (b1 (fR h l0 5 7) fun x8 => b1 (fI h l0 5 19) fun x9 => b1 (fAI h x8 100 x9) fun x10 => cond (z_cmp .ne x10 (Int32.ofInt 10)) (fM_next_60 N  l0 h) (fM_next_47 N (fM_next_8 N n ) l0 h)))
theorem sfM_next_8 {xs : List Int32} (N : Nat)   : ∀ (n : Nat) (l0 : Nat) (h : zH) (r : Unit × zH), fM_next_8 N n  l0 h = some r → zt xs (2) 198 8 [(0, .ref l0)] [] h 0 0 (zQ cV r) := by
  have hy := mfM_next
  intro n
  induction n with
  | zero =>
    intro l0 h r e
    rw [fM_next_8] at e
    cases e
  | succ n ih =>
    intro l0 h r e
    rw [fM_next_8] at e
    exact zl hy 1 (pc2 := 9) (lv2 := [(0, .ref l0)]) (st2 := [.ref l0]) rfl <| zx_gI hy rfl e fun x3 _ e => zl hy 1 (pc2 := 13) (lv2 := [(0, .ref l0)]) (st2 := [.ref l0, .int x3]) rfl <| zx_gI hy rfl e fun x4 _ e => zx_c hy rfl e (fun _ e => zt_sub (z_fc rfl (z_fn)) <| sfM_next_60 N   l0 h _ e) (fun _ e => zl hy 1 (pc2 := 20) (lv2 := [(0, .ref l0)]) (st2 := [.ref l0]) rfl <| zx_gR hy rfl e fun x5 _ e => zl hy 1 (pc2 := 24) (lv2 := [(0, .ref l0)]) (st2 := [.ref l0, .ref x5]) rfl <| zx_gI hy rfl e fun x6 _ e => zx_aI hy (j := .iaload) (Or.inl ⟨rfl, rfl⟩) rfl e fun x7 _ e => zx_bip hy (c := 32) rfl (by decide) <| zx_c hy rfl e (fun _ e => zt_sub (z_fc rfl (z_fn)) <| sfM_next_47 N (fM_next_8 N n ) ih l0 h _ e) (fun _ e => zl hy 1 (pc2 := 34) (lv2 := [(0, .ref l0)]) (st2 := [.ref l0]) rfl <| zx_gR hy rfl e fun x8 _ e => zl hy 1 (pc2 := 38) (lv2 := [(0, .ref l0)]) (st2 := [.ref l0, .ref x8]) rfl <| zx_gI hy rfl e fun x9 _ e => zx_aI hy (j := .iaload) (Or.inl ⟨rfl, rfl⟩) rfl e fun x10 _ e => zx_bip hy (c := 10) rfl (by decide) <| zx_c hy rfl e (fun _ e => zt_sub (z_fc rfl (z_fn)) <| sfM_next_60 N   l0 h _ e) (fun _ e => zt_sub (z_fc rfl (z_fn)) <| sfM_next_47 N (fM_next_8 N n ) ih l0 h _ e)))
def fM_next (N : Nat) (l0 : Nat) (h : zH) : Option (Unit × zH) := cond (fT h l0 5) (b1 (fI h l0 5 20) fun x1 => b1 (fS h l0 5 19 (.int x1)) fun h2 => fM_next_8 N N  l0 h2) none
theorem sfM_next {xs : List Int32} (N : Nat) (l0 : Nat) (h : zH) (r : Unit × zH) (e : fM_next N l0 h = some r) : zt xs (2) 198 0 [(0, .ref l0)] [] h 0 0 (zQ cV r) := by
  have hy := mfM_next
  unfold fM_next at e
  replace e := (cond_some e).2
  exact zl hy 2 (pc2 := 2) (lv2 := [(0, .ref l0)]) (st2 := [.ref l0, .ref l0]) rfl <| zx_gI hy rfl e fun x1 _ e => zx_pf hy rfl e (rfl) fun h2 _ e => zt_sub (z_fc rfl (z_fn)) <| sfM_next_8 N   N l0 h2 _ e
theorem rfM_next (N : Nat) (l0 : Nat) (h : zH) (r : Unit × zH) (e : fM_next N l0 h = some r) : fT h l0 5 = true := by
  unfold fM_next at e
  exact (cond_some e).1
/-- LyndonBenchModel.says(Ljava/lang/String;)Z -/
theorem mfM_says : z_me 199 zc_199 3 [] (some .boolean) := ⟨z_me0 rfl, rfl, rfl, rfl⟩
def fM_says_24 (N : Nat)   (h : zH) : Option (Int32 × zH) := some ((Int32.ofInt 0), h)
theorem sfM_says_24 {xs : List Int32} (N : Nat)    (h : zH) (r : Int32 × zH) (e : fM_says_24 N   h = some r) : zt xs (5) 199 24 [] [] h 0 0 (zQ cI r) := by
  have hy := mfM_says
  unfold fM_says_24 at e
  exact zl hy 1 (pc2 := 25) (lv2 := []) (st2 := [.int (Int32.ofInt 0)]) rfl <| zx_ret hy (v := .int (Int32.ofInt 0)) rfl rfl (by decide) rfl e
def fM_says_28 (N : Nat) : Nat → Nat → Nat → Int32 → zH → Option (Int32 × zH)
  | 0, _, _, _, _ => none
  | n + 1, l0, l1, l2, h => b2 (fJ_length N l1 h) fun x6 h7 => cond (z_cmp .ge l2 x6) (some ((Int32.ofInt 1), h7)) (b1 (fR h7 l0 5 7) fun x8 => b1 (fI h7 l0 5 19) fun x9 => b1 (fAI h7 x8 100 (x9 + l2)) fun x10 => b2 (fJ_charAt N l1 l2 h7) fun x11 h12 => cond (z_cmp .eq x10 x11) (fM_says_28 N n  l0 l1 (l2 + Int32.ofInt 1) h12) (some ((Int32.ofInt 0), h12)))
theorem sfM_says_28 {xs : List Int32} (N : Nat)   : ∀ (n : Nat) (l0 : Nat) (l1 : Nat) (l2 : Int32) (h : zH) (r : Int32 × zH), fM_says_28 N n  l0 l1 l2 h = some r → zt xs (5) 199 28 [(0, .ref l0), (1, .ref l1), (2, .int l2)] [] h 0 0 (zQ cI r) := by
  have hy := mfM_says
  intro n
  induction n with
  | zero =>
    intro l0 l1 l2 h r e
    rw [fM_says_28] at e
    cases e
  | succ n ih =>
    intro l0 l1 l2 h r e
    rw [fM_says_28] at e
    exact zl hy 2 (pc2 := 30) (lv2 := [(0, .ref l0), (1, .ref l1), (2, .int l2)]) (st2 := [.ref l1, .int l2]) rfl <| zx_call hy (as := [.ref l1]) (rest := [.int l2]) (ov := (fun v => some (.int v))) (fun _ => rfl) rfl rfl (Or.inl rfl) rfl rfl (Nat.le_of_ble_eq_true rfl) (Nat.le_of_ble_eq_true rfl) (fun _ e _ => z_rcvT (rfJ_length N l1 h _ e)) (fun _ e => zt_deep (Nat.le_of_ble_eq_true rfl) (sfJ_length N l1 h _ e)) e fun x6 h7 _ e => zx_c hy rfl e (fun _ e => zl hy 1 (pc2 := 64) (lv2 := [(0, .ref l0), (1, .ref l1), (2, .int l2)]) (st2 := [.int (Int32.ofInt 1)]) rfl <| zx_ret hy (v := .int (Int32.ofInt 1)) rfl rfl (by decide) rfl e) (fun _ e => zl hy 1 (pc2 := 37) (lv2 := [(0, .ref l0), (1, .ref l1), (2, .int l2)]) (st2 := [.ref l0]) rfl <| zx_gR hy rfl e fun x8 _ e => zl hy 1 (pc2 := 41) (lv2 := [(0, .ref l0), (1, .ref l1), (2, .int l2)]) (st2 := [.ref l0, .ref x8]) rfl <| zx_gI hy rfl e fun x9 _ e => zl hy 2 (pc2 := 46) (lv2 := [(0, .ref l0), (1, .ref l1), (2, .int l2)]) (st2 := [.int (x9 + l2), .ref x8]) rfl <| zx_aI hy (j := .iaload) (Or.inl ⟨rfl, rfl⟩) rfl e fun x10 _ e => zl hy 2 (pc2 := 49) (lv2 := [(0, .ref l0), (1, .ref l1), (2, .int l2)]) (st2 := [.int l2, .ref l1, .int x10]) rfl <| zx_call hy (as := [.ref l1, .int l2]) (rest := [.int x10]) (ov := (fun v => some (.int v))) (fun _ => rfl) rfl rfl (Or.inl rfl) rfl rfl (Nat.le_of_ble_eq_true rfl) (Nat.le_of_ble_eq_true rfl) (fun _ e _ => z_rcvT (rfJ_charAt N l1 l2 h7 _ e)) (fun _ e => zt_deep (Nat.le_of_ble_eq_true rfl) (sfJ_charAt N l1 l2 h7 _ e)) e fun x11 h12 _ e => zx_c hy rfl e (fun _ e => zl hy 2 (pc2 := 28) (lv2 := [(2, .int (l2 + Int32.ofInt 1)), (0, .ref l0), (1, .ref l1)]) (st2 := []) rfl <| zt_sub (z_fc rfl (z_fc rfl (z_fc rfl (z_fn)))) <| ih l0 l1 (l2 + Int32.ofInt 1) h12 _ e) (fun _ e => zl hy 1 (pc2 := 56) (lv2 := [(0, .ref l0), (1, .ref l1), (2, .int l2)]) (st2 := [.int (Int32.ofInt 0)]) rfl <| zx_ret hy (v := .int (Int32.ofInt 0)) rfl rfl (by decide) rfl e))
def fM_says (N : Nat) (l0 : Nat) (l1 : Nat) (h : zH) : Option (Int32 × zH) := cond (fT h l0 5) (b1 (fI h l0 5 18) fun x1 => cond (z_cmp .ne x1 (Int32.ofInt 2)) (fM_says_24 N   h) (b1 (fI h l0 5 20) fun x2 => b1 (fI h l0 5 19) fun x3 => b2 (fJ_length N l1 h) fun x4 h5 => cond (z_cmp .eq (x2 - x3) x4) (fM_says_28 N N  l0 l1 (Int32.ofInt 0) h5) (fM_says_24 N   h5))) none
theorem sfM_says {xs : List Int32} (N : Nat) (l0 : Nat) (l1 : Nat) (h : zH) (r : Int32 × zH) (e : fM_says N l0 l1 h = some r) : zt xs (5) 199 0 [(0, .ref l0), (1, .ref l1)] [] h 0 0 (zQ cI r) := by
  have hy := mfM_says
  unfold fM_says at e
  replace e := (cond_some e).2
  exact zl hy 1 (pc2 := 1) (lv2 := [(0, .ref l0), (1, .ref l1)]) (st2 := [.ref l0]) rfl <| zx_gI hy rfl e fun x1 _ e => zl hy 1 (pc2 := 5) (lv2 := [(0, .ref l0), (1, .ref l1)]) (st2 := [.int (Int32.ofInt 2), .int x1]) rfl <| zx_c hy rfl e (fun _ e => zt_sub (z_fn) <| sfM_says_24 N    h _ e) (fun _ e => zl hy 1 (pc2 := 9) (lv2 := [(0, .ref l0), (1, .ref l1)]) (st2 := [.ref l0]) rfl <| zx_gI hy rfl e fun x2 _ e => zl hy 1 (pc2 := 13) (lv2 := [(0, .ref l0), (1, .ref l1)]) (st2 := [.ref l0, .int x2]) rfl <| zx_gI hy rfl e fun x3 _ e => zl hy 2 (pc2 := 18) (lv2 := [(0, .ref l0), (1, .ref l1)]) (st2 := [.ref l1, .int (x2 - x3)]) rfl <| zx_call hy (as := [.ref l1]) (rest := [.int (x2 - x3)]) (ov := (fun v => some (.int v))) (fun _ => rfl) rfl rfl (Or.inl rfl) rfl rfl (Nat.le_of_ble_eq_true rfl) (Nat.le_of_ble_eq_true rfl) (fun _ e _ => z_rcvT (rfJ_length N l1 h _ e)) (fun _ e => zt_deep (Nat.le_of_ble_eq_true rfl) (sfJ_length N l1 h _ e)) e fun x4 h5 _ e => zx_c hy rfl e (fun _ e => zl hy 2 (pc2 := 28) (lv2 := [(2, .int (Int32.ofInt 0)), (0, .ref l0), (1, .ref l1)]) (st2 := []) rfl <| zt_sub (z_fc rfl (z_fc rfl (z_fc rfl (z_fn)))) <| sfM_says_28 N   N l0 l1 (Int32.ofInt 0) h5 _ e) (fun _ e => zt_sub (z_fn) <| sfM_says_24 N    h5 _ e))
theorem rfM_says (N : Nat) (l0 : Nat) (l1 : Nat) (h : zH) (r : Int32 × zH) (e : fM_says N l0 l1 h = some r) : fT h l0 5 = true := by
  unfold fM_says at e
  exact (cond_some e).1
/-- LyndonBenchModel.fail(I)Z -/
theorem mfM_fail : z_me 200 zc_200 2 [] (some .boolean) := ⟨z_me0 rfl, rfl, rfl, rfl⟩
def fM_fail_20 (N : Nat)   (h : zH) : Option (Int32 × zH) := some ((Int32.ofInt 0), h)
theorem sfM_fail_20 {xs : List Int32} (N : Nat)    (h : zH) (r : Int32 × zH) (e : fM_fail_20 N   h = some r) : zt xs (1) 200 20 [] [] h 0 0 (zQ cI r) := by
  have hy := mfM_fail
  unfold fM_fail_20 at e
  exact zl hy 1 (pc2 := 21) (lv2 := []) (st2 := [.int (Int32.ofInt 0)]) rfl <| zx_ret hy (v := .int (Int32.ofInt 0)) rfl rfl (by decide) rfl e
def fM_fail (N : Nat) (l0 : Nat) (l1 : Int32) (h : zH) : Option (Int32 × zH) := cond (fT h l0 5) (b1 (fI h l0 5 12) fun x1 => cond (z_cmp .ne x1 (Int32.ofInt 0)) (fM_fail_20 N   h) (b1 (fS h l0 5 12 (.int l1)) fun h2 => b1 (fI h2 l0 5 19) fun x3 => b1 (fS h2 l0 5 13 (.int x3)) fun h4 => fM_fail_20 N   h4)) none
theorem sfM_fail {xs : List Int32} (N : Nat) (l0 : Nat) (l1 : Int32) (h : zH) (r : Int32 × zH) (e : fM_fail N l0 l1 h = some r) : zt xs (1) 200 0 [(0, .ref l0), (1, .int l1)] [] h 0 0 (zQ cI r) := by
  have hy := mfM_fail
  unfold fM_fail at e
  replace e := (cond_some e).2
  exact zl hy 1 (pc2 := 1) (lv2 := [(0, .ref l0), (1, .int l1)]) (st2 := [.ref l0]) rfl <| zx_gI hy rfl e fun x1 _ e => zx_c0 hy rfl e (fun _ e => zt_sub (z_fn) <| sfM_fail_20 N    h _ e) (fun _ e => zl hy 2 (pc2 := 9) (lv2 := [(0, .ref l0), (1, .int l1)]) (st2 := [.int l1, .ref l0]) rfl <| zx_pf hy rfl e (rfl) fun h2 _ e => zl hy 2 (pc2 := 14) (lv2 := [(0, .ref l0), (1, .int l1)]) (st2 := [.ref l0, .ref l0]) rfl <| zx_gI hy rfl e fun x3 _ e => zx_pf hy rfl e (rfl) fun h4 _ e => zt_sub (z_fn) <| sfM_fail_20 N    h4 _ e)
theorem rfM_fail (N : Nat) (l0 : Nat) (l1 : Int32) (h : zH) (r : Int32 × zH) (e : fM_fail N l0 l1 h = some r) : fT h l0 5 = true := by
  unfold fM_fail at e
  exact (cond_some e).1
/-- LyndonBenchModel.is(I)Z -/
theorem mfM_is : z_me 201 zc_201 2 [] (some .boolean) := ⟨z_me0 rfl, rfl, rfl, rfl⟩
def fM_is_21 (N : Nat)  (s0 : Int32) (h : zH) : Option (Int32 × zH) := cond (decide (s0 = Int32.ofInt 0) || decide (s0 = Int32.ofInt 1)) (some (s0, h)) none
theorem sfM_is_21 {xs : List Int32} (N : Nat)   (s0 : Int32) (h : zH) (r : Int32 × zH) (e : fM_is_21 N  s0 h = some r) : zt xs (2) 201 21 [] [.int s0] h 0 0 (zQ cI r) := by
  have hy := mfM_is
  unfold fM_is_21 at e
  exact zx_retB hy rfl rfl e
def fM_is_16 (N : Nat)   (h : zH) : Option (Int32 × zH) := fM_is_21 N  (Int32.ofInt 1) h
theorem sfM_is_16 {xs : List Int32} (N : Nat)    (h : zH) (r : Int32 × zH) (e : fM_is_16 N   h = some r) : zt xs (2) 201 16 [] [] h 0 0 (zQ cI r) := by
  have hy := mfM_is
  unfold fM_is_16 at e
  exact zl hy 2 (pc2 := 21) (lv2 := []) (st2 := [.int (Int32.ofInt 1)]) rfl <| zt_sub (z_fn) <| sfM_is_21 N   (Int32.ofInt 1) h _ e
def fM_is (N : Nat) (l0 : Nat) (l1 : Int32) (h : zH) : Option (Int32 × zH) := cond (fT h l0 5) (b1 (fI h l0 5 18) fun x1 => cond (z_cmp .eq x1 l1) (fM_is_16 N   h) (b2 (fM_fail N l0 (Int32.ofInt 1) h) fun x2 h3 => cond (z_cmp .eq x2 (Int32.ofInt 0)) (fM_is_21 N  (Int32.ofInt 0) h3) (fM_is_16 N   h3))) none
theorem sfM_is {xs : List Int32} (N : Nat) (l0 : Nat) (l1 : Int32) (h : zH) (r : Int32 × zH) (e : fM_is N l0 l1 h = some r) : zt xs (2) 201 0 [(0, .ref l0), (1, .int l1)] [] h 0 0 (zQ cI r) := by
  have hy := mfM_is
  unfold fM_is at e
  replace e := (cond_some e).2
  exact zl hy 1 (pc2 := 1) (lv2 := [(0, .ref l0), (1, .int l1)]) (st2 := [.ref l0]) rfl <| zx_gI hy rfl e fun x1 _ e => zl hy 1 (pc2 := 5) (lv2 := [(0, .ref l0), (1, .int l1)]) (st2 := [.int l1, .int x1]) rfl <| zx_c hy rfl e (fun _ e => zt_sub (z_fn) <| sfM_is_16 N    h _ e) (fun _ e => zl hy 2 (pc2 := 10) (lv2 := [(0, .ref l0), (1, .int l1)]) (st2 := [.int (Int32.ofInt 1), .ref l0]) rfl <| zx_call hy (as := [.ref l0, .int (Int32.ofInt 1)]) (rest := []) (ov := (fun v => some (.int v))) (fun _ => rfl) rfl rfl (Or.inl rfl) rfl rfl (Nat.le_of_ble_eq_true rfl) (Nat.le_of_ble_eq_true rfl) (fun _ e _ => z_rcvT (rfM_fail N l0 (Int32.ofInt 1) h _ e)) (fun _ e => zt_deep (Nat.le_of_ble_eq_true rfl) (sfM_fail N l0 (Int32.ofInt 1) h _ e)) e fun x2 h3 _ e => zx_c0 hy rfl e (fun _ e => zl hy 1 (pc2 := 21) (lv2 := [(0, .ref l0), (1, .int l1)]) (st2 := [.int (Int32.ofInt 0)]) rfl <| zt_sub (z_fn) <| sfM_is_21 N   (Int32.ofInt 0) h3 _ e) (fun _ e => zt_sub (z_fn) <| sfM_is_16 N    h3 _ e))
theorem rfM_is (N : Nat) (l0 : Nat) (l1 : Int32) (h : zH) (r : Int32 × zH) (e : fM_is N l0 l1 h = some r) : fT h l0 5 = true := by
  unfold fM_is at e
  exact (cond_some e).1
/-- LyndonBenchModel.number(III)Z -/
theorem mfM_number : z_me 202 zc_202 4 [] (some .boolean) := ⟨z_me0 rfl, rfl, rfl, rfl⟩
def fM_number (N : Nat) (l0 : Nat) (l1 : Int32) (l2 : Int32) (l3 : Int32) (h : zH) : Option (Int32 × zH) := cond (fT h l0 5) (b2 (fM_is N l0 (Int32.ofInt 3) h) fun x1 h2 => cond (z_cmp .ne x1 (Int32.ofInt 0)) (b1 (fI h2 l0 5 21) fun x3 => b2 (fM_in N x3 l2 l3 h2) fun x4 h5 => cond (z_cmp .ne x4 (Int32.ofInt 0)) (b1 (fR h5 l0 5 23) fun x6 => b1 (fI h5 l0 5 21) fun x7 => b1 (fAS h5 x6 100 l1 (.int x7)) fun h8 => b2 (fM_next N l0 h8) fun _ h10 => some ((Int32.ofInt 1), h10)) (b2 (fM_fail N l0 (Int32.ofInt 2) h5) fun x11 h12 => cond (decide (x11 = Int32.ofInt 0) || decide (x11 = Int32.ofInt 1)) (some (x11, h12)) none)) (some ((Int32.ofInt 0), h2))) none
theorem sfM_number {xs : List Int32} (N : Nat) (l0 : Nat) (l1 : Int32) (l2 : Int32) (l3 : Int32) (h : zH) (r : Int32 × zH) (e : fM_number N l0 l1 l2 l3 h = some r) : zt xs (3) 202 0 [(0, .ref l0), (1, .int l1), (2, .int l2), (3, .int l3)] [] h 0 0 (zQ cI r) := by
  have hy := mfM_number
  unfold fM_number at e
  replace e := (cond_some e).2
  exact zl hy 2 (pc2 := 2) (lv2 := [(0, .ref l0), (1, .int l1), (2, .int l2), (3, .int l3)]) (st2 := [.int (Int32.ofInt 3), .ref l0]) rfl <| zx_call hy (as := [.ref l0, .int (Int32.ofInt 3)]) (rest := []) (ov := (fun v => some (.int v))) (fun _ => rfl) rfl rfl (Or.inl rfl) rfl rfl (Nat.le_of_ble_eq_true rfl) (Nat.le_of_ble_eq_true rfl) (fun _ e _ => z_rcvT (rfM_is N l0 (Int32.ofInt 3) h _ e)) (fun _ e => zt_deep (Nat.le_of_ble_eq_true rfl) (sfM_is N l0 (Int32.ofInt 3) h _ e)) e fun x1 h2 _ e => zx_c0 hy rfl e (fun _ e => zl hy 1 (pc2 := 11) (lv2 := [(0, .ref l0), (1, .int l1), (2, .int l2), (3, .int l3)]) (st2 := [.ref l0]) rfl <| zx_gI hy rfl e fun x3 _ e => zl hy 2 (pc2 := 16) (lv2 := [(0, .ref l0), (1, .int l1), (2, .int l2), (3, .int l3)]) (st2 := [.int l3, .int l2, .int x3]) rfl <| zx_call hy (as := [.int x3, .int l2, .int l3]) (rest := []) (ov := (fun v => some (.int v))) (fun _ => rfl) rfl rfl (Or.inr (Or.inl rfl)) rfl rfl (Nat.le_of_ble_eq_true rfl) (Nat.le_of_ble_eq_true rfl) (fun _ _ hz => absurd rfl hz) (fun _ e => zt_deep (Nat.le_of_ble_eq_true rfl) (sfM_in N x3 l2 l3 h2 _ e)) e fun x4 h5 _ e => zx_c0 hy rfl e (fun _ e => zl hy 1 (pc2 := 29) (lv2 := [(0, .ref l0), (1, .int l1), (2, .int l2), (3, .int l3)]) (st2 := [.ref l0]) rfl <| zx_gR hy rfl e fun x6 _ e => zl hy 2 (pc2 := 34) (lv2 := [(0, .ref l0), (1, .int l1), (2, .int l2), (3, .int l3)]) (st2 := [.ref l0, .int l1, .ref x6]) rfl <| zx_gI hy rfl e fun x7 _ e => zx_sI hy (j := .iastore) (Or.inl ⟨rfl, rfl, rfl⟩) rfl e fun h8 _ e => zl hy 1 (pc2 := 39) (lv2 := [(0, .ref l0), (1, .int l1), (2, .int l2), (3, .int l3)]) (st2 := [.ref l0]) rfl <| zx_call hy (as := [.ref l0]) (rest := []) (ov := (fun _ => none)) (fun _ => rfl) rfl rfl (Or.inl rfl) rfl rfl (Nat.le_of_ble_eq_true rfl) (Nat.le_of_ble_eq_true rfl) (fun _ e _ => z_rcvT (rfM_next N l0 h8 _ e)) (fun _ e => zt_deep (Nat.le_of_ble_eq_true rfl) (sfM_next N l0 h8 _ e)) e fun _ h10 _ e => zl hy 1 (pc2 := 43) (lv2 := [(0, .ref l0), (1, .int l1), (2, .int l2), (3, .int l3)]) (st2 := [.int (Int32.ofInt 1)]) rfl <| zx_ret hy (v := .int (Int32.ofInt 1)) rfl rfl (by decide) rfl e) (fun _ e => zl hy 2 (pc2 := 24) (lv2 := [(0, .ref l0), (1, .int l1), (2, .int l2), (3, .int l3)]) (st2 := [.int (Int32.ofInt 2), .ref l0]) rfl <| zx_call hy (as := [.ref l0, .int (Int32.ofInt 2)]) (rest := []) (ov := (fun v => some (.int v))) (fun _ => rfl) rfl rfl (Or.inl rfl) rfl rfl (Nat.le_of_ble_eq_true rfl) (Nat.le_of_ble_eq_true rfl) (fun _ e _ => z_rcvT (rfM_fail N l0 (Int32.ofInt 2) h5 _ e)) (fun _ e => zt_deep (Nat.le_of_ble_eq_true rfl) (sfM_fail N l0 (Int32.ofInt 2) h5 _ e)) e fun x11 h12 _ e => zx_retB hy rfl rfl e)) (fun _ e => zl hy 1 (pc2 := 9) (lv2 := [(0, .ref l0), (1, .int l1), (2, .int l2), (3, .int l3)]) (st2 := [.int (Int32.ofInt 0)]) rfl <| zx_ret hy (v := .int (Int32.ofInt 0)) rfl rfl (by decide) rfl e)
theorem rfM_number (N : Nat) (l0 : Nat) (l1 : Int32) (l2 : Int32) (l3 : Int32) (h : zH) (r : Int32 × zH) (e : fM_number N l0 l1 l2 l3 h = some r) : fT h l0 5 = true := by
  unfold fM_number at e
  exact (cond_some e).1
/-- LyndonBenchModel.stops(Z)Z -/
theorem mfM_stops : z_me 203 zc_203 2 [] (some .boolean) := ⟨z_me0 rfl, rfl, rfl, rfl⟩
def fM_stops_25 (N : Nat)  (s0 : Int32) (h : zH) : Option (Int32 × zH) := cond (decide (s0 = Int32.ofInt 0) || decide (s0 = Int32.ofInt 1)) (some (s0, h)) none
theorem sfM_stops_25 {xs : List Int32} (N : Nat)   (s0 : Int32) (h : zH) (r : Int32 × zH) (e : fM_stops_25 N  s0 h = some r) : zt xs (3) 203 25 [] [.int s0] h 0 0 (zQ cI r) := by
  have hy := mfM_stops
  unfold fM_stops_25 at e
  exact zx_retB hy rfl rfl e
def fM_stops_24 (N : Nat)   (h : zH) : Option (Int32 × zH) := fM_stops_25 N  (Int32.ofInt 0) h
theorem sfM_stops_24 {xs : List Int32} (N : Nat)    (h : zH) (r : Int32 × zH) (e : fM_stops_24 N   h = some r) : zt xs (3) 203 24 [] [] h 0 0 (zQ cI r) := by
  have hy := mfM_stops
  unfold fM_stops_24 at e
  exact zl hy 1 (pc2 := 25) (lv2 := []) (st2 := [.int (Int32.ofInt 0)]) rfl <| zt_sub (z_fn) <| sfM_stops_25 N   (Int32.ofInt 0) h _ e
def fM_stops_20 (N : Nat)   (h : zH) : Option (Int32 × zH) := fM_stops_25 N  (Int32.ofInt 1) h
theorem sfM_stops_20 {xs : List Int32} (N : Nat)    (h : zH) (r : Int32 × zH) (e : fM_stops_20 N   h = some r) : zt xs (3) 203 20 [] [] h 0 0 (zQ cI r) := by
  have hy := mfM_stops
  unfold fM_stops_20 at e
  exact zl hy 2 (pc2 := 25) (lv2 := []) (st2 := [.int (Int32.ofInt 1)]) rfl <| zt_sub (z_fn) <| sfM_stops_25 N   (Int32.ofInt 1) h _ e
def fM_stops (N : Nat) (l0 : Nat) (l1 : Int32) (h : zH) : Option (Int32 × zH) := cond (fT h l0 5) (b2 (fM_is N l0 (Int32.ofInt 1) h) fun x1 h2 => cond (z_cmp .eq x1 (Int32.ofInt 0)) (fM_stops_24 N   h2) (cond (z_cmp .ne l1 (Int32.ofInt 0)) (fM_stops_20 N   h2) (b2 (fM_fail N l0 (Int32.ofInt 3) h2) fun x3 h4 => cond (z_cmp .eq x3 (Int32.ofInt 0)) (fM_stops_24 N   h4) (fM_stops_20 N   h4)))) none
theorem sfM_stops {xs : List Int32} (N : Nat) (l0 : Nat) (l1 : Int32) (h : zH) (r : Int32 × zH) (e : fM_stops N l0 l1 h = some r) : zt xs (3) 203 0 [(0, .ref l0), (1, .int l1)] [] h 0 0 (zQ cI r) := by
  have hy := mfM_stops
  unfold fM_stops at e
  replace e := (cond_some e).2
  exact zl hy 2 (pc2 := 2) (lv2 := [(0, .ref l0), (1, .int l1)]) (st2 := [.int (Int32.ofInt 1), .ref l0]) rfl <| zx_call hy (as := [.ref l0, .int (Int32.ofInt 1)]) (rest := []) (ov := (fun v => some (.int v))) (fun _ => rfl) rfl rfl (Or.inl rfl) rfl rfl (Nat.le_of_ble_eq_true rfl) (Nat.le_of_ble_eq_true rfl) (fun _ e _ => z_rcvT (rfM_is N l0 (Int32.ofInt 1) h _ e)) (fun _ e => zt_deep (Nat.le_of_ble_eq_true rfl) (sfM_is N l0 (Int32.ofInt 1) h _ e)) e fun x1 h2 _ e => zx_c0 hy rfl e (fun _ e => zt_sub (z_fn) <| sfM_stops_24 N    h2 _ e) (fun _ e => zl hy 1 (pc2 := 9) (lv2 := [(0, .ref l0), (1, .int l1)]) (st2 := [.int l1]) rfl <| zx_c0 hy rfl e (fun _ e => zt_sub (z_fn) <| sfM_stops_20 N    h2 _ e) (fun _ e => zl hy 2 (pc2 := 14) (lv2 := [(0, .ref l0), (1, .int l1)]) (st2 := [.int (Int32.ofInt 3), .ref l0]) rfl <| zx_call hy (as := [.ref l0, .int (Int32.ofInt 3)]) (rest := []) (ov := (fun v => some (.int v))) (fun _ => rfl) rfl rfl (Or.inl rfl) rfl rfl (Nat.le_of_ble_eq_true rfl) (Nat.le_of_ble_eq_true rfl) (fun _ e _ => z_rcvT (rfM_fail N l0 (Int32.ofInt 3) h2 _ e)) (fun _ e => zt_deep (Nat.le_of_ble_eq_true rfl) (sfM_fail N l0 (Int32.ofInt 3) h2 _ e)) e fun x3 h4 _ e => zx_c0 hy rfl e (fun _ e => zt_sub (z_fn) <| sfM_stops_24 N    h4 _ e) (fun _ e => zt_sub (z_fn) <| sfM_stops_20 N    h4 _ e)))
theorem rfM_stops (N : Nat) (l0 : Nat) (l1 : Int32) (h : zH) (r : Int32 × zH) (e : fM_stops N l0 l1 h = some r) : fT h l0 5 = true := by
  unfold fM_stops at e
  exact (cond_some e).1
