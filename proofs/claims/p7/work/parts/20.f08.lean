/-! F functions, by program. -/
/-- LyndonBenchModel.begins()V -/
theorem mfM_begins : z_me 226 zc_226 2 [] none := ⟨z_me0 rfl, rfl, rfl, rfl⟩
def fM_begins_2 (N : Nat) : Nat → Nat → Int32 → zH → Option (Unit × zH)
  | 0, _, _, _ => none
  | n + 1, l0, l1, h => cond (z_cmp .ge l1 (Int32.ofInt 451)) (some ((), h)) (b1 (fR h l0 5 1) fun x1 => b1 (fR h l0 5 0) fun x2 => b1 (fAI h x2 100 l1) fun x3 => b1 (fAS h x1 100 l1 (.int x3)) fun h4 => fM_begins_2 N n  l0 (l1 + Int32.ofInt 1) h4)
theorem sfM_begins_2 {xs : List Int32} (N : Nat)   : ∀ (n : Nat) (l0 : Nat) (l1 : Int32) (h : zH) (r : Unit × zH), fM_begins_2 N n  l0 l1 h = some r → zt xs (1) 226 2 [(0, .ref l0), (1, .int l1)] [] h 0 0 (zQ cV r) := by
  have hy := mfM_begins
  intro n
  induction n with
  | zero =>
    intro l0 l1 h r e
    rw [fM_begins_2] at e
    cases e
  | succ n ih =>
    intro l0 l1 h r e
    rw [fM_begins_2] at e
    exact zl hy 1 (pc2 := 3) (lv2 := [(0, .ref l0), (1, .int l1)]) (st2 := [.int l1]) rfl <| zx_sip hy (c := 451) rfl (by decide) <| zx_c hy rfl e (fun _ e => zx_retV hy rfl rfl e) (fun _ e => zl hy 1 (pc2 := 10) (lv2 := [(0, .ref l0), (1, .int l1)]) (st2 := [.ref l0]) rfl <| zx_gR hy rfl e fun x1 _ e => zl hy 2 (pc2 := 15) (lv2 := [(0, .ref l0), (1, .int l1)]) (st2 := [.ref l0, .int l1, .ref x1]) rfl <| zx_gR hy rfl e fun x2 _ e => zl hy 1 (pc2 := 19) (lv2 := [(0, .ref l0), (1, .int l1)]) (st2 := [.int l1, .ref x2, .int l1, .ref x1]) rfl <| zx_aI hy (j := .iaload) (Or.inl ⟨rfl, rfl⟩) rfl e fun x3 _ e => zx_sI hy (j := .iastore) (Or.inl ⟨rfl, rfl, rfl⟩) rfl e fun h4 _ e => zl hy 2 (pc2 := 2) (lv2 := [(1, .int (l1 + Int32.ofInt 1)), (0, .ref l0)]) (st2 := []) rfl <| zt_sub (z_fc rfl (z_fc rfl (z_fn))) <| ih l0 (l1 + Int32.ofInt 1) h4 _ e)
def fM_begins (N : Nat) (l0 : Nat) (h : zH) : Option (Unit × zH) := cond (fT h l0 5) (fM_begins_2 N N  l0 (Int32.ofInt 0) h) none
theorem sfM_begins {xs : List Int32} (N : Nat) (l0 : Nat) (h : zH) (r : Unit × zH) (e : fM_begins N l0 h = some r) : zt xs (1) 226 0 [(0, .ref l0)] [] h 0 0 (zQ cV r) := by
  have hy := mfM_begins
  unfold fM_begins at e
  replace e := (cond_some e).2
  exact zl hy 2 (pc2 := 2) (lv2 := [(1, .int (Int32.ofInt 0)), (0, .ref l0)]) (st2 := []) rfl <| zt_sub (z_fc rfl (z_fc rfl (z_fn))) <| sfM_begins_2 N   N l0 (Int32.ofInt 0) h _ e
theorem rfM_begins (N : Nat) (l0 : Nat) (h : zH) (r : Unit × zH) (e : fM_begins N l0 h = some r) : fT h l0 5 = true := by
  unfold fM_begins at e
  exact (cond_some e).1
/-- LyndonBenchModel.remember(I)I -/
theorem mfM_remember : z_me 227 zc_227 3 [] (some .int) := ⟨z_me0 rfl, rfl, rfl, rfl⟩
def fM_remember_54 (N : Nat) : Nat → Nat → Int32 → Int32 → zH → Option (Int32 × zH)
  | 0, _, _, _, _ => none
  | n + 1, l0, l1, l2, h => cond (z_cmp .ge l2 (Int32.ofInt 451)) (b1 (fI h l0 5 4) fun x2 => b1 (fS h l0 5 4 (.int (x2 + (Int32.ofInt 1)))) fun h3 => some (l1, h3)) (b1 (fR h l0 5 2) fun x4 => b1 (fI h l0 5 4) fun x5 => b1 (fR h l0 5 1) fun x6 => b1 (fAI h x6 100 l2) fun x7 => b1 (fAS h x4 100 (((Int32.ofInt 451) * x5) + l2) (.int x7)) fun h8 => fM_remember_54 N n  l0 l1 (l2 + Int32.ofInt 1) h8)
theorem sfM_remember_54 {xs : List Int32} (N : Nat)   : ∀ (n : Nat) (l0 : Nat) (l1 : Int32) (l2 : Int32) (h : zH) (r : Int32 × zH), fM_remember_54 N n  l0 l1 l2 h = some r → zt xs (1) 227 54 [(0, .ref l0), (1, .int l1), (2, .int l2)] [] h 0 0 (zQ cI r) := by
  have hy := mfM_remember
  intro n
  induction n with
  | zero =>
    intro l0 l1 l2 h r e
    rw [fM_remember_54] at e
    cases e
  | succ n ih =>
    intro l0 l1 l2 h r e
    rw [fM_remember_54] at e
    exact zl hy 1 (pc2 := 55) (lv2 := [(0, .ref l0), (1, .int l1), (2, .int l2)]) (st2 := [.int l2]) rfl <| zx_sip hy (c := 451) rfl (by decide) <| zx_c hy rfl e (fun _ e => zl hy 2 (pc2 := 90) (lv2 := [(0, .ref l0), (1, .int l1), (2, .int l2)]) (st2 := [.ref l0, .ref l0]) rfl <| zx_gI hy rfl e fun x2 _ e => zl hy 2 (pc2 := 95) (lv2 := [(0, .ref l0), (1, .int l1), (2, .int l2)]) (st2 := [.int (x2 + (Int32.ofInt 1)), .ref l0]) rfl <| zx_pf hy rfl e (rfl) fun h3 _ e => zl hy 1 (pc2 := 99) (lv2 := [(0, .ref l0), (1, .int l1), (2, .int l2)]) (st2 := [.int l1]) rfl <| zx_ret hy rfl rfl rfl rfl e) (fun _ e => zl hy 1 (pc2 := 62) (lv2 := [(0, .ref l0), (1, .int l1), (2, .int l2)]) (st2 := [.ref l0]) rfl <| zx_gR hy rfl e fun x4 _ e => zx_sip hy (c := 451) rfl (by decide) <| zl hy 1 (pc2 := 69) (lv2 := [(0, .ref l0), (1, .int l1), (2, .int l2)]) (st2 := [.ref l0, .int (Int32.ofInt 451), .ref x4]) rfl <| zx_gI hy rfl e fun x5 _ e => zl hy 4 (pc2 := 76) (lv2 := [(0, .ref l0), (1, .int l1), (2, .int l2)]) (st2 := [.ref l0, .int (((Int32.ofInt 451) * x5) + l2), .ref x4]) rfl <| zx_gR hy rfl e fun x6 _ e => zl hy 1 (pc2 := 80) (lv2 := [(0, .ref l0), (1, .int l1), (2, .int l2)]) (st2 := [.int l2, .ref x6, .int (((Int32.ofInt 451) * x5) + l2), .ref x4]) rfl <| zx_aI hy (j := .iaload) (Or.inl ⟨rfl, rfl⟩) rfl e fun x7 _ e => zx_sI hy (j := .iastore) (Or.inl ⟨rfl, rfl, rfl⟩) rfl e fun h8 _ e => zl hy 2 (pc2 := 54) (lv2 := [(2, .int (l2 + Int32.ofInt 1)), (0, .ref l0), (1, .int l1)]) (st2 := []) rfl <| zt_sub (z_fc rfl (z_fc rfl (z_fc rfl (z_fn)))) <| ih l0 l1 (l2 + Int32.ofInt 1) h8 _ e)
def fM_remember_52 (N : Nat)  (l0 : Nat) (l1 : Int32) (h : zH) : Option (Int32 × zH) := fM_remember_54 N N  l0 l1 (Int32.ofInt 0) h
theorem sfM_remember_52 {xs : List Int32} (N : Nat)   (l0 : Nat) (l1 : Int32) (h : zH) (r : Int32 × zH) (e : fM_remember_52 N  l0 l1 h = some r) : zt xs (1) 227 52 [(0, .ref l0), (1, .int l1)] [] h 0 0 (zQ cI r) := by
  have hy := mfM_remember
  unfold fM_remember_52 at e
  exact zl hy 2 (pc2 := 54) (lv2 := [(2, .int (Int32.ofInt 0)), (0, .ref l0), (1, .int l1)]) (st2 := []) rfl <| zt_sub (z_fc rfl (z_fc rfl (z_fc rfl (z_fn)))) <| sfM_remember_54 N   N l0 l1 (Int32.ofInt 0) h _ e
def fM_remember_13 (N : Nat) : Nat → Nat → Int32 → Int32 → zH → Option (Int32 × zH)
  | 0, _, _, _, _ => none
  | n + 1, l0, l1, l2, h => cond (z_cmp .ge l2 (Int32.ofInt 3608)) (b1 (fI h l0 5 4) fun x2 => b1 (fS h l0 5 4 (.int (x2 - (Int32.ofInt 1)))) fun h3 => fM_remember_52 N  l0 l1 h3) (b1 (fR h l0 5 2) fun x4 => b1 (fR h l0 5 2) fun x5 => b1 (fAI h x5 100 l2) fun x6 => b1 (fAS h x4 100 (l2 - (Int32.ofInt 451)) (.int x6)) fun h7 => fM_remember_13 N n  l0 l1 (l2 + Int32.ofInt 1) h7)
theorem sfM_remember_13 {xs : List Int32} (N : Nat)   : ∀ (n : Nat) (l0 : Nat) (l1 : Int32) (l2 : Int32) (h : zH) (r : Int32 × zH), fM_remember_13 N n  l0 l1 l2 h = some r → zt xs (1) 227 13 [(0, .ref l0), (1, .int l1), (2, .int l2)] [] h 0 0 (zQ cI r) := by
  have hy := mfM_remember
  intro n
  induction n with
  | zero =>
    intro l0 l1 l2 h r e
    rw [fM_remember_13] at e
    cases e
  | succ n ih =>
    intro l0 l1 l2 h r e
    rw [fM_remember_13] at e
    exact zl hy 1 (pc2 := 14) (lv2 := [(0, .ref l0), (1, .int l1), (2, .int l2)]) (st2 := [.int l2]) rfl <| zx_sip hy (c := 3608) rfl (by decide) <| zx_c hy rfl e (fun _ e => zl hy 2 (pc2 := 44) (lv2 := [(0, .ref l0), (1, .int l1), (2, .int l2)]) (st2 := [.ref l0, .ref l0]) rfl <| zx_gI hy rfl e fun x2 _ e => zl hy 2 (pc2 := 49) (lv2 := [(0, .ref l0), (1, .int l1), (2, .int l2)]) (st2 := [.int (x2 - (Int32.ofInt 1)), .ref l0]) rfl <| zx_pf hy rfl e (rfl) fun h3 _ e => zt_sub (z_fc rfl (z_fc rfl (z_fn))) <| sfM_remember_52 N   l0 l1 h3 _ e) (fun _ e => zl hy 1 (pc2 := 21) (lv2 := [(0, .ref l0), (1, .int l1), (2, .int l2)]) (st2 := [.ref l0]) rfl <| zx_gR hy rfl e fun x4 _ e => zl hy 1 (pc2 := 25) (lv2 := [(0, .ref l0), (1, .int l1), (2, .int l2)]) (st2 := [.int l2, .ref x4]) rfl <| zx_sip hy (c := 451) rfl (by decide) <| zl hy 2 (pc2 := 30) (lv2 := [(0, .ref l0), (1, .int l1), (2, .int l2)]) (st2 := [.ref l0, .int (l2 - (Int32.ofInt 451)), .ref x4]) rfl <| zx_gR hy rfl e fun x5 _ e => zl hy 1 (pc2 := 34) (lv2 := [(0, .ref l0), (1, .int l1), (2, .int l2)]) (st2 := [.int l2, .ref x5, .int (l2 - (Int32.ofInt 451)), .ref x4]) rfl <| zx_aI hy (j := .iaload) (Or.inl ⟨rfl, rfl⟩) rfl e fun x6 _ e => zx_sI hy (j := .iastore) (Or.inl ⟨rfl, rfl, rfl⟩) rfl e fun h7 _ e => zl hy 2 (pc2 := 13) (lv2 := [(2, .int (l2 + Int32.ofInt 1)), (0, .ref l0), (1, .int l1)]) (st2 := []) rfl <| zt_sub (z_fc rfl (z_fc rfl (z_fc rfl (z_fn)))) <| ih l0 l1 (l2 + Int32.ofInt 1) h7 _ e)
def fM_remember (N : Nat) (l0 : Nat) (l1 : Int32) (h : zH) : Option (Int32 × zH) := cond (fT h l0 5) (b1 (fI h l0 5 4) fun x1 => cond (z_cmp .ne x1 (Int32.ofInt 8)) (fM_remember_52 N  l0 l1 h) (fM_remember_13 N N  l0 l1 (Int32.ofInt 451) h)) none
theorem sfM_remember {xs : List Int32} (N : Nat) (l0 : Nat) (l1 : Int32) (h : zH) (r : Int32 × zH) (e : fM_remember N l0 l1 h = some r) : zt xs (1) 227 0 [(0, .ref l0), (1, .int l1)] [] h 0 0 (zQ cI r) := by
  have hy := mfM_remember
  unfold fM_remember at e
  replace e := (cond_some e).2
  exact zl hy 1 (pc2 := 1) (lv2 := [(0, .ref l0), (1, .int l1)]) (st2 := [.ref l0]) rfl <| zx_gI hy rfl e fun x1 _ e => zx_bip hy (c := 8) rfl (by decide) <| zx_c hy rfl e (fun _ e => zt_sub (z_fc rfl (z_fc rfl (z_fn))) <| sfM_remember_52 N   l0 l1 h _ e) (fun _ e => zx_sip hy (c := 451) rfl (by decide) <| zl hy 1 (pc2 := 13) (lv2 := [(2, .int (Int32.ofInt 451)), (0, .ref l0), (1, .int l1)]) (st2 := []) rfl <| zt_sub (z_fc rfl (z_fc rfl (z_fc rfl (z_fn)))) <| sfM_remember_13 N   N l0 l1 (Int32.ofInt 451) h _ e)
theorem rfM_remember (N : Nat) (l0 : Nat) (l1 : Int32) (h : zH) (r : Int32 × zH) (e : fM_remember N l0 l1 h = some r) : fT h l0 5 = true := by
  unfold fM_remember at e
  exact (cond_some e).1
/-- LyndonBenchModel.runScript()I -/
theorem mfM_runScript : z_me 228 zc_228 2 [] (some .int) := ⟨z_me0 rfl, rfl, rfl, rfl⟩
def fM_runScript_59 (N : Nat) : Nat → Nat → Int32 → zH → Option (Int32 × zH)
  | 0, _, _, _ => none
  | n + 1, l0, l1, h => cond (z_cmp .ge l1 (Int32.ofInt 451)) (some ((Int32.ofInt (-1)), h)) (b1 (fR h l0 5 0) fun x14 => b1 (fR h l0 5 1) fun x15 => b1 (fAI h x15 100 l1) fun x16 => b1 (fAS h x14 100 l1 (.int x16)) fun h17 => fM_runScript_59 N n  l0 (l1 + Int32.ofInt 1) h17)
theorem sfM_runScript_59 {xs : List Int32} (N : Nat)   : ∀ (n : Nat) (l0 : Nat) (l1 : Int32) (h : zH) (r : Int32 × zH), fM_runScript_59 N n  l0 l1 h = some r → zt xs (67) 228 59 [(0, .ref l0), (1, .int l1)] [] h 0 0 (zQ cI r) := by
  have hy := mfM_runScript
  intro n
  induction n with
  | zero =>
    intro l0 l1 h r e
    rw [fM_runScript_59] at e
    cases e
  | succ n ih =>
    intro l0 l1 h r e
    rw [fM_runScript_59] at e
    exact zl hy 1 (pc2 := 60) (lv2 := [(0, .ref l0), (1, .int l1)]) (st2 := [.int l1]) rfl <| zx_sip hy (c := 451) rfl (by decide) <| zx_c hy rfl e (fun _ e => zl hy 1 (pc2 := 85) (lv2 := [(0, .ref l0), (1, .int l1)]) (st2 := [.int (Int32.ofInt (-1))]) rfl <| zx_ret hy rfl rfl rfl rfl e) (fun _ e => zl hy 1 (pc2 := 67) (lv2 := [(0, .ref l0), (1, .int l1)]) (st2 := [.ref l0]) rfl <| zx_gR hy rfl e fun x14 _ e => zl hy 2 (pc2 := 72) (lv2 := [(0, .ref l0), (1, .int l1)]) (st2 := [.ref l0, .int l1, .ref x14]) rfl <| zx_gR hy rfl e fun x15 _ e => zl hy 1 (pc2 := 76) (lv2 := [(0, .ref l0), (1, .int l1)]) (st2 := [.int l1, .ref x15, .int l1, .ref x14]) rfl <| zx_aI hy (j := .iaload) (Or.inl ⟨rfl, rfl⟩) rfl e fun x16 _ e => zx_sI hy (j := .iastore) (Or.inl ⟨rfl, rfl, rfl⟩) rfl e fun h17 _ e => zl hy 2 (pc2 := 59) (lv2 := [(1, .int (l1 + Int32.ofInt 1)), (0, .ref l0)]) (st2 := []) rfl <| zt_sub (z_fc rfl (z_fc rfl (z_fn))) <| ih l0 (l1 + Int32.ofInt 1) h17 _ e)
def fM_runScript_7 (N : Nat) : Nat → Nat → Int32 → zH → Option (Int32 × zH)
  | 0, _, _, _ => none
  | n + 1, l0, l1, h => b1 (fI h l0 5 10) fun x2 => cond (z_cmp .ge l1 x2) (b1 (fI h l0 5 10) fun x3 => b1 (fS h l0 5 11 (.int x3)) fun h4 => b1 (fS h4 l0 5 10 (.int (Int32.ofInt 0))) fun h5 => b2 (fM_begins N l0 h5) fun _ h7 => b2 (fM_parses N l0 h7) fun x8 h9 => cond (z_cmp .ne x8 (Int32.ofInt 0)) (b1 (fR h9 l0 5 0) fun x10 => b1 (fAI h9 x10 100 (Int32.ofInt 1)) fun x11 => b2 (fM_remember N l0 x11 h9) fun x12 h13 => some (x12, h13)) (fM_runScript_59 N N  l0 (Int32.ofInt 0) h9)) (b1 (fR h l0 5 7) fun x14 => b1 (fR h l0 5 6) fun x15 => b1 (fAI h x15 100 l1) fun x16 => b1 (fAS h x14 100 l1 (.int x16)) fun h17 => fM_runScript_7 N n  l0 (l1 + Int32.ofInt 1) h17)
theorem sfM_runScript_7 {xs : List Int32} (N : Nat)   : ∀ (n : Nat) (l0 : Nat) (l1 : Int32) (h : zH) (r : Int32 × zH), fM_runScript_7 N n  l0 l1 h = some r → zt xs (67) 228 7 [(0, .ref l0), (1, .int l1)] [] h 0 0 (zQ cI r) := by
  have hy := mfM_runScript
  intro n
  induction n with
  | zero =>
    intro l0 l1 h r e
    rw [fM_runScript_7] at e
    cases e
  | succ n ih =>
    intro l0 l1 h r e
    rw [fM_runScript_7] at e
    exact zl hy 2 (pc2 := 9) (lv2 := [(0, .ref l0), (1, .int l1)]) (st2 := [.ref l0, .int l1]) rfl <| zx_gI hy rfl e fun x2 _ e => zx_c hy rfl e (fun _ e => zl hy 2 (pc2 := 35) (lv2 := [(0, .ref l0), (1, .int l1)]) (st2 := [.ref l0, .ref l0]) rfl <| zx_gI hy rfl e fun x3 _ e => zx_pf hy rfl e (rfl) fun h4 _ e => zl hy 2 (pc2 := 43) (lv2 := [(0, .ref l0), (1, .int l1)]) (st2 := [.int (Int32.ofInt 0), .ref l0]) rfl <| zx_pf hy rfl e (rfl) fun h5 _ e => zl hy 1 (pc2 := 47) (lv2 := [(0, .ref l0), (1, .int l1)]) (st2 := [.ref l0]) rfl <| zx_call hy (as := [.ref l0]) (rest := []) (ov := (fun _ => none)) (fun _ => rfl) rfl rfl (Or.inl rfl) rfl rfl (Nat.le_of_ble_eq_true rfl) (Nat.le_of_ble_eq_true rfl) (fun _ e _ => z_rcvT (rfM_begins N l0 h5 _ e)) (fun _ e => zt_deep (Nat.le_of_ble_eq_true rfl) (sfM_begins N l0 h5 _ e)) e fun _ h7 _ e => zl hy 1 (pc2 := 51) (lv2 := [(0, .ref l0), (1, .int l1)]) (st2 := [.ref l0]) rfl <| zx_call hy (as := [.ref l0]) (rest := []) (ov := (fun v => some (.int v))) (fun _ => rfl) rfl rfl (Or.inl rfl) rfl rfl (Nat.le_of_ble_eq_true rfl) (Nat.le_of_ble_eq_true rfl) (fun _ e _ => z_rcvT (rfM_parses N l0 h7 _ e)) (fun _ e => zt_deep (Nat.le_of_ble_eq_true rfl) (sfM_parses N l0 h7 _ e)) e fun x8 h9 _ e => zx_c0 hy rfl e (fun _ e => zl hy 2 (pc2 := 88) (lv2 := [(0, .ref l0), (1, .int l1)]) (st2 := [.ref l0, .ref l0]) rfl <| zx_gR hy rfl e fun x10 _ e => zl hy 1 (pc2 := 92) (lv2 := [(0, .ref l0), (1, .int l1)]) (st2 := [.int (Int32.ofInt 1), .ref x10, .ref l0]) rfl <| zx_aI hy (j := .iaload) (Or.inl ⟨rfl, rfl⟩) rfl e fun x11 _ e => zx_call hy (as := [.ref l0, .int x11]) (rest := []) (ov := (fun v => some (.int v))) (fun _ => rfl) rfl rfl (Or.inl rfl) rfl rfl (Nat.le_of_ble_eq_true rfl) (Nat.le_of_ble_eq_true rfl) (fun _ e _ => z_rcvT (rfM_remember N l0 x11 h9 _ e)) (fun _ e => zt_deep (Nat.le_of_ble_eq_true rfl) (sfM_remember N l0 x11 h9 _ e)) e fun x12 h13 _ e => zx_ret hy rfl rfl rfl rfl e) (fun _ e => zl hy 2 (pc2 := 59) (lv2 := [(1, .int (Int32.ofInt 0)), (0, .ref l0)]) (st2 := []) rfl <| zt_sub (z_fc rfl (z_fc rfl (z_fn))) <| sfM_runScript_59 N   N l0 (Int32.ofInt 0) h9 _ e)) (fun _ e => zl hy 1 (pc2 := 16) (lv2 := [(0, .ref l0), (1, .int l1)]) (st2 := [.ref l0]) rfl <| zx_gR hy rfl e fun x14 _ e => zl hy 2 (pc2 := 21) (lv2 := [(0, .ref l0), (1, .int l1)]) (st2 := [.ref l0, .int l1, .ref x14]) rfl <| zx_gR hy rfl e fun x15 _ e => zl hy 1 (pc2 := 25) (lv2 := [(0, .ref l0), (1, .int l1)]) (st2 := [.int l1, .ref x15, .int l1, .ref x14]) rfl <| zx_aI hy (j := .iaload) (Or.inl ⟨rfl, rfl⟩) rfl e fun x16 _ e => zx_sI hy (j := .iastore) (Or.inl ⟨rfl, rfl, rfl⟩) rfl e fun h17 _ e => zl hy 2 (pc2 := 7) (lv2 := [(1, .int (l1 + Int32.ofInt 1)), (0, .ref l0)]) (st2 := []) rfl <| zt_sub (z_fc rfl (z_fc rfl (z_fn))) <| ih l0 (l1 + Int32.ofInt 1) h17 _ e)
def fM_runScript (N : Nat) (l0 : Nat) (h : zH) : Option (Int32 × zH) := cond (fT h l0 5) (b1 (fS h l0 5 17 (.int (Int32.ofInt 0))) fun h1 => fM_runScript_7 N N  l0 (Int32.ofInt 0) h1) none
theorem sfM_runScript {xs : List Int32} (N : Nat) (l0 : Nat) (h : zH) (r : Int32 × zH) (e : fM_runScript N l0 h = some r) : zt xs (67) 228 0 [(0, .ref l0)] [] h 0 0 (zQ cI r) := by
  have hy := mfM_runScript
  unfold fM_runScript at e
  replace e := (cond_some e).2
  exact zl hy 2 (pc2 := 2) (lv2 := [(0, .ref l0)]) (st2 := [.int (Int32.ofInt 0), .ref l0]) rfl <| zx_pf hy rfl e (rfl) fun h1 _ e => zl hy 2 (pc2 := 7) (lv2 := [(1, .int (Int32.ofInt 0)), (0, .ref l0)]) (st2 := []) rfl <| zt_sub (z_fc rfl (z_fc rfl (z_fn))) <| sfM_runScript_7 N   N l0 (Int32.ofInt 0) h1 _ e
theorem rfM_runScript (N : Nat) (l0 : Nat) (h : zH) (r : Int32 × zH) (e : fM_runScript N l0 h = some r) : fT h l0 5 = true := by
  unfold fM_runScript at e
  exact (cond_some e).1
/-- LyndonBenchModel.setLetters(I)I -/
theorem mfM_setLetters : z_me 229 zc_229 4 [] (some .int) := ⟨z_me0 rfl, rfl, rfl, rfl⟩
def fM_setLetters_35 (N : Nat)  (l0 : Nat) (l1 : Int32) (s0 : Int32) (s1 : Int32) (s2 : Nat) (h : zH) : Option (Int32 × zH) := b2 (fM_throwsOne2 N s2 s1 s0 h) fun x3 h4 => cond (z_cmp .eq x3 (Int32.ofInt 0)) (b2 (fM_begins N l0 h4) fun _ h6 => b1 (fR h6 l0 5 0) fun x7 => b1 (fAI h6 x7 100 (Int32.ofInt 0)) fun x8 => b1 (fR h6 l0 5 0) fun x9 => b1 (fAS h6 x9 100 (Int32.ofInt 0) (.int l1)) fun h10 => b2 (fM_remember N l0 x8 h10) fun x11 h12 => some (x11, h12)) (some ((Int32.ofInt 0), h4))
theorem sfM_setLetters_35 {xs : List Int32} (N : Nat)   (l0 : Nat) (l1 : Int32) (s0 : Int32) (s1 : Int32) (s2 : Nat) (h : zH) (r : Int32 × zH) (e : fM_setLetters_35 N  l0 l1 s0 s1 s2 h = some r) : zt xs (2) 229 35 [(0, .ref l0), (1, .int l1)] [.int s0, .int s1, .ref s2] h 0 0 (zQ cI r) := by
  have hy := mfM_setLetters
  unfold fM_setLetters_35 at e
  exact zx_call hy (as := [.ref s2, .int s1, .int s0]) (rest := []) (ov := (fun v => some (.int v))) (fun _ => rfl) rfl rfl (Or.inl rfl) rfl rfl (Nat.le_of_ble_eq_true rfl) (Nat.le_of_ble_eq_true rfl) (fun _ e _ => z_rcvT (rfM_throwsOne2 N s2 s1 s0 h _ e)) (fun _ e => zt_deep (Nat.le_of_ble_eq_true rfl) (sfM_throwsOne2 N s2 s1 s0 h _ e)) e fun x3 h4 _ e => zx_c0 hy rfl e (fun _ e => zl hy 1 (pc2 := 44) (lv2 := [(0, .ref l0), (1, .int l1)]) (st2 := [.ref l0]) rfl <| zx_call hy (as := [.ref l0]) (rest := []) (ov := (fun _ => none)) (fun _ => rfl) rfl rfl (Or.inl rfl) rfl rfl (Nat.le_of_ble_eq_true rfl) (Nat.le_of_ble_eq_true rfl) (fun _ e _ => z_rcvT (rfM_begins N l0 h4 _ e)) (fun _ e => zt_deep (Nat.le_of_ble_eq_true rfl) (sfM_begins N l0 h4 _ e)) e fun _ h6 _ e => zl hy 1 (pc2 := 48) (lv2 := [(0, .ref l0), (1, .int l1)]) (st2 := [.ref l0]) rfl <| zx_gR hy rfl e fun x7 _ e => zl hy 1 (pc2 := 52) (lv2 := [(0, .ref l0), (1, .int l1)]) (st2 := [.int (Int32.ofInt 0), .ref x7]) rfl <| zx_aI hy (j := .iaload) (Or.inl ⟨rfl, rfl⟩) rfl e fun x8 _ e => zl hy 2 (pc2 := 55) (lv2 := [(3, .int x8), (0, .ref l0), (1, .int l1)]) (st2 := [.ref l0]) rfl <| zx_gR hy rfl e fun x9 _ e => zl hy 2 (pc2 := 60) (lv2 := [(3, .int x8), (0, .ref l0), (1, .int l1)]) (st2 := [.int l1, .int (Int32.ofInt 0), .ref x9]) rfl <| zx_sI hy (j := .iastore) (Or.inl ⟨rfl, rfl, rfl⟩) rfl e fun h10 _ e => zl hy 2 (pc2 := 63) (lv2 := [(3, .int x8), (0, .ref l0), (1, .int l1)]) (st2 := [.int x8, .ref l0]) rfl <| zx_call hy (as := [.ref l0, .int x8]) (rest := []) (ov := (fun v => some (.int v))) (fun _ => rfl) rfl rfl (Or.inl rfl) rfl rfl (Nat.le_of_ble_eq_true rfl) (Nat.le_of_ble_eq_true rfl) (fun _ e _ => z_rcvT (rfM_remember N l0 x8 h10 _ e)) (fun _ e => zt_deep (Nat.le_of_ble_eq_true rfl) (sfM_remember N l0 x8 h10 _ e)) e fun x11 h12 _ e => zx_ret hy rfl rfl rfl rfl e) (fun _ e => zl hy 1 (pc2 := 42) (lv2 := [(0, .ref l0), (1, .int l1)]) (st2 := [.int (Int32.ofInt 0)]) rfl <| zx_ret hy rfl rfl rfl rfl e)
def fM_setLetters_34 (N : Nat)  (l0 : Nat) (l1 : Int32) (s0 : Int32) (s1 : Nat) (h : zH) : Option (Int32 × zH) := fM_setLetters_35 N  l0 l1 (Int32.ofInt 0) s0 s1 h
theorem sfM_setLetters_34 {xs : List Int32} (N : Nat)   (l0 : Nat) (l1 : Int32) (s0 : Int32) (s1 : Nat) (h : zH) (r : Int32 × zH) (e : fM_setLetters_34 N  l0 l1 s0 s1 h = some r) : zt xs (2) 229 34 [(0, .ref l0), (1, .int l1)] [.int s0, .ref s1] h 0 0 (zQ cI r) := by
  have hy := mfM_setLetters
  unfold fM_setLetters_34 at e
  exact zl hy 1 (pc2 := 35) (lv2 := [(0, .ref l0), (1, .int l1)]) (st2 := [.int (Int32.ofInt 0), .int s0, .ref s1]) rfl <| zt_sub (z_fc rfl (z_fc rfl (z_fn))) <| sfM_setLetters_35 N   l0 l1 (Int32.ofInt 0) s0 s1 h _ e
def fM_setLetters_15 (N : Nat)  (l0 : Nat) (l1 : Int32) (s0 : Int32) (h : zH) : Option (Int32 × zH) := cond (z_cmp .ne s0 (Int32.ofInt 0)) (fM_setLetters_34 N  l0 l1 s0 l0 h) (b2 (fM_canHave N l0 l1 h) fun x3 h4 => cond (z_cmp .ne x3 (Int32.ofInt 0)) (fM_setLetters_34 N  l0 l1 s0 l0 h4) (fM_setLetters_35 N  l0 l1 (Int32.ofInt 1) s0 l0 h4))
theorem sfM_setLetters_15 {xs : List Int32} (N : Nat)   (l0 : Nat) (l1 : Int32) (s0 : Int32) (h : zH) (r : Int32 × zH) (e : fM_setLetters_15 N  l0 l1 s0 h = some r) : zt xs (2) 229 15 [(0, .ref l0), (1, .int l1)] [.int s0] h 0 0 (zQ cI r) := by
  have hy := mfM_setLetters
  unfold fM_setLetters_15 at e
  exact zl hy 4 (pc2 := 19) (lv2 := [(2, .int s0), (0, .ref l0), (1, .int l1)]) (st2 := [.int s0, .int s0, .ref l0]) rfl <| zx_c0 hy rfl e (fun _ e => zt_sub (z_fc rfl (z_fc rfl (z_fn))) <| sfM_setLetters_34 N   l0 l1 s0 l0 h _ e) (fun _ e => zl hy 2 (pc2 := 24) (lv2 := [(2, .int s0), (0, .ref l0), (1, .int l1)]) (st2 := [.int l1, .ref l0, .int s0, .ref l0]) rfl <| zx_call hy (as := [.ref l0, .int l1]) (rest := [.int s0, .ref l0]) (ov := (fun v => some (.int v))) (fun _ => rfl) rfl rfl (Or.inl rfl) rfl rfl (Nat.le_of_ble_eq_true rfl) (Nat.le_of_ble_eq_true rfl) (fun _ e _ => z_rcvT (rfM_canHave N l0 l1 h _ e)) (fun _ e => zt_deep (Nat.le_of_ble_eq_true rfl) (sfM_canHave N l0 l1 h _ e)) e fun x3 h4 _ e => zx_c0 hy rfl e (fun _ e => zt_sub (z_fc rfl (z_fc rfl (z_fn))) <| sfM_setLetters_34 N   l0 l1 s0 l0 h4 _ e) (fun _ e => zl hy 2 (pc2 := 35) (lv2 := [(2, .int s0), (0, .ref l0), (1, .int l1)]) (st2 := [.int (Int32.ofInt 1), .int s0, .ref l0]) rfl <| zt_sub (z_fc rfl (z_fc rfl (z_fn))) <| sfM_setLetters_35 N   l0 l1 (Int32.ofInt 1) s0 l0 h4 _ e))
def fM_setLetters (N : Nat) (l0 : Nat) (l1 : Int32) (h : zH) : Option (Int32 × zH) := cond (fT h l0 5) (b2 (fM_in N l1 (Int32.ofInt 2) (Int32.ofInt 9) h) fun x1 h2 => cond (z_cmp .ne x1 (Int32.ofInt 0)) (fM_setLetters_15 N  l0 l1 (Int32.ofInt 0) h2) (fM_setLetters_15 N  l0 l1 (Int32.ofInt 1) h2)) none
theorem sfM_setLetters {xs : List Int32} (N : Nat) (l0 : Nat) (l1 : Int32) (h : zH) (r : Int32 × zH) (e : fM_setLetters N l0 l1 h = some r) : zt xs (2) 229 0 [(0, .ref l0), (1, .int l1)] [] h 0 0 (zQ cI r) := by
  have hy := mfM_setLetters
  unfold fM_setLetters at e
  replace e := (cond_some e).2
  exact zl hy 2 (pc2 := 2) (lv2 := [(0, .ref l0), (1, .int l1)]) (st2 := [.int (Int32.ofInt 2), .int l1]) rfl <| zx_bip hy (c := 9) rfl (by decide) <| zx_call hy (as := [.int l1, .int (Int32.ofInt 2), .int (Int32.ofInt 9)]) (rest := []) (ov := (fun v => some (.int v))) (fun _ => rfl) rfl rfl (Or.inr (Or.inl rfl)) rfl rfl (Nat.le_of_ble_eq_true rfl) (Nat.le_of_ble_eq_true rfl) (fun _ _ hz => absurd rfl hz) (fun _ e => zt_deep (Nat.le_of_ble_eq_true rfl) (sfM_in N l1 (Int32.ofInt 2) (Int32.ofInt 9) h _ e)) e fun x1 h2 _ e => zx_c0 hy rfl e (fun _ e => zl hy 1 (pc2 := 15) (lv2 := [(0, .ref l0), (1, .int l1)]) (st2 := [.int (Int32.ofInt 0)]) rfl <| zt_sub (z_fc rfl (z_fc rfl (z_fn))) <| sfM_setLetters_15 N   l0 l1 (Int32.ofInt 0) h2 _ e) (fun _ e => zl hy 2 (pc2 := 15) (lv2 := [(0, .ref l0), (1, .int l1)]) (st2 := [.int (Int32.ofInt 1)]) rfl <| zt_sub (z_fc rfl (z_fc rfl (z_fn))) <| sfM_setLetters_15 N   l0 l1 (Int32.ofInt 1) h2 _ e)
theorem rfM_setLetters (N : Nat) (l0 : Nat) (l1 : Int32) (h : zH) (r : Int32 × zH) (e : fM_setLetters N l0 l1 h = some r) : fT h l0 5 = true := by
  unfold fM_setLetters at e
  exact (cond_some e).1
/-- LyndonBenchModel.readText()I -/
theorem mfM_readText : z_me 230 zc_230 3 [] (some .int) := ⟨z_me0 rfl, rfl, rfl, rfl⟩
def fM_readText_60 (N : Nat) : Nat → Nat → Int32 → Int32 → zH → Option (Int32 × zH)
  | 0, _, _, _, _ => none
  | n + 1, l0, l1, l2, h => cond (z_cmp .ge l2 l1) (b1 (fS h l0 5 10 (.int (Int32.ofInt 0))) fun h7 => b2 (fM_takes N l0 h7) fun x8 h9 => b2 (fM_remember N l0 x8 h9) fun x10 h11 => some (x10, h11)) (b1 (fR h l0 5 6) fun x12 => b1 (fAI h x12 100 l2) fun x13 => b2 (fM_adds N l0 (x13 - (Int32.ofInt 97)) h) fun _ h15 => fM_readText_60 N n  l0 l1 (l2 + Int32.ofInt 1) h15)
theorem sfM_readText_60 {xs : List Int32} (N : Nat)   : ∀ (n : Nat) (l0 : Nat) (l1 : Int32) (l2 : Int32) (h : zH) (r : Int32 × zH), fM_readText_60 N n  l0 l1 l2 h = some r → zt xs (3) 230 60 [(0, .ref l0), (1, .int l1), (2, .int l2)] [] h 0 0 (zQ cI r) := by
  have hy := mfM_readText
  intro n
  induction n with
  | zero =>
    intro l0 l1 l2 h r e
    rw [fM_readText_60] at e
    cases e
  | succ n ih =>
    intro l0 l1 l2 h r e
    rw [fM_readText_60] at e
    exact zl hy 2 (pc2 := 62) (lv2 := [(0, .ref l0), (1, .int l1), (2, .int l2)]) (st2 := [.int l1, .int l2]) rfl <| zx_c hy rfl e (fun _ e => zl hy 2 (pc2 := 86) (lv2 := [(0, .ref l0), (1, .int l1), (2, .int l2)]) (st2 := [.int (Int32.ofInt 0), .ref l0]) rfl <| zx_pf hy rfl e (rfl) fun h7 _ e => zl hy 2 (pc2 := 91) (lv2 := [(0, .ref l0), (1, .int l1), (2, .int l2)]) (st2 := [.ref l0, .ref l0]) rfl <| zx_call hy (as := [.ref l0]) (rest := [.ref l0]) (ov := (fun v => some (.int v))) (fun _ => rfl) rfl rfl (Or.inl rfl) rfl rfl (Nat.le_of_ble_eq_true rfl) (Nat.le_of_ble_eq_true rfl) (fun _ e _ => z_rcvT (rfM_takes N l0 h7 _ e)) (fun _ e => zt_deep (Nat.le_of_ble_eq_true rfl) (sfM_takes N l0 h7 _ e)) e fun x8 h9 _ e => zx_call hy (as := [.ref l0, .int x8]) (rest := []) (ov := (fun v => some (.int v))) (fun _ => rfl) rfl rfl (Or.inl rfl) rfl rfl (Nat.le_of_ble_eq_true rfl) (Nat.le_of_ble_eq_true rfl) (fun _ e _ => z_rcvT (rfM_remember N l0 x8 h9 _ e)) (fun _ e => zt_deep (Nat.le_of_ble_eq_true rfl) (sfM_remember N l0 x8 h9 _ e)) e fun x10 h11 _ e => zx_ret hy rfl rfl rfl rfl e) (fun _ e => zl hy 2 (pc2 := 67) (lv2 := [(0, .ref l0), (1, .int l1), (2, .int l2)]) (st2 := [.ref l0, .ref l0]) rfl <| zx_gR hy rfl e fun x12 _ e => zl hy 1 (pc2 := 71) (lv2 := [(0, .ref l0), (1, .int l1), (2, .int l2)]) (st2 := [.int l2, .ref x12, .ref l0]) rfl <| zx_aI hy (j := .iaload) (Or.inl ⟨rfl, rfl⟩) rfl e fun x13 _ e => zx_bip hy (c := 97) rfl (by decide) <| zl hy 1 (pc2 := 75) (lv2 := [(0, .ref l0), (1, .int l1), (2, .int l2)]) (st2 := [.int (x13 - (Int32.ofInt 97)), .ref l0]) rfl <| zx_call hy (as := [.ref l0, .int (x13 - (Int32.ofInt 97))]) (rest := []) (ov := (fun _ => none)) (fun _ => rfl) rfl rfl (Or.inl rfl) rfl rfl (Nat.le_of_ble_eq_true rfl) (Nat.le_of_ble_eq_true rfl) (fun _ e _ => z_rcvT (rfM_adds N l0 (x13 - (Int32.ofInt 97)) h _ e)) (fun _ e => zt_deep (Nat.le_of_ble_eq_true rfl) (sfM_adds N l0 (x13 - (Int32.ofInt 97)) h _ e)) e fun _ h15 _ e => zl hy 2 (pc2 := 60) (lv2 := [(2, .int (l2 + Int32.ofInt 1)), (0, .ref l0), (1, .int l1)]) (st2 := []) rfl <| zt_sub (z_fc rfl (z_fc rfl (z_fc rfl (z_fn)))) <| ih l0 l1 (l2 + Int32.ofInt 1) h15 _ e)
def fM_readText_41 (N : Nat)  (l0 : Nat) (l1 : Int32) (s0 : Int32) (s1 : Nat) (h : zH) : Option (Int32 × zH) := b2 (fM_throwsOne N s1 s0 h) fun x2 h3 => cond (z_cmp .eq x2 (Int32.ofInt 0)) (b2 (fM_begins N l0 h3) fun _ h5 => b1 (fS h5 l0 5 14 (.int (Int32.ofInt 0))) fun h6 => fM_readText_60 N N  l0 l1 (Int32.ofInt 0) h6) (some ((Int32.ofInt 0), h3))
theorem sfM_readText_41 {xs : List Int32} (N : Nat)   (l0 : Nat) (l1 : Int32) (s0 : Int32) (s1 : Nat) (h : zH) (r : Int32 × zH) (e : fM_readText_41 N  l0 l1 s0 s1 h = some r) : zt xs (3) 230 41 [(0, .ref l0), (1, .int l1)] [.int s0, .ref s1] h 0 0 (zQ cI r) := by
  have hy := mfM_readText
  unfold fM_readText_41 at e
  exact zx_call hy (as := [.ref s1, .int s0]) (rest := []) (ov := (fun v => some (.int v))) (fun _ => rfl) rfl rfl (Or.inl rfl) rfl rfl (Nat.le_of_ble_eq_true rfl) (Nat.le_of_ble_eq_true rfl) (fun _ e _ => z_rcvT (rfM_throwsOne N s1 s0 h _ e)) (fun _ e => zt_deep (Nat.le_of_ble_eq_true rfl) (sfM_throwsOne N s1 s0 h _ e)) e fun x2 h3 _ e => zx_c0 hy rfl e (fun _ e => zl hy 1 (pc2 := 50) (lv2 := [(0, .ref l0), (1, .int l1)]) (st2 := [.ref l0]) rfl <| zx_call hy (as := [.ref l0]) (rest := []) (ov := (fun _ => none)) (fun _ => rfl) rfl rfl (Or.inl rfl) rfl rfl (Nat.le_of_ble_eq_true rfl) (Nat.le_of_ble_eq_true rfl) (fun _ e _ => z_rcvT (rfM_begins N l0 h3 _ e)) (fun _ e => zt_deep (Nat.le_of_ble_eq_true rfl) (sfM_begins N l0 h3 _ e)) e fun _ h5 _ e => zl hy 2 (pc2 := 55) (lv2 := [(0, .ref l0), (1, .int l1)]) (st2 := [.int (Int32.ofInt 0), .ref l0]) rfl <| zx_pf hy rfl e (rfl) fun h6 _ e => zl hy 2 (pc2 := 60) (lv2 := [(2, .int (Int32.ofInt 0)), (0, .ref l0), (1, .int l1)]) (st2 := []) rfl <| zt_sub (z_fc rfl (z_fc rfl (z_fc rfl (z_fn)))) <| sfM_readText_60 N   N l0 l1 (Int32.ofInt 0) h6 _ e) (fun _ e => zl hy 1 (pc2 := 48) (lv2 := [(0, .ref l0), (1, .int l1)]) (st2 := [.int (Int32.ofInt 0)]) rfl <| zx_ret hy rfl rfl rfl rfl e)
def fM_readText_29 (N : Nat)  (l0 : Nat) (l1 : Int32) (h : zH) : Option (Int32 × zH) := cond (z_cmp .le l1 (Int32.ofInt 120)) (fM_readText_41 N  l0 l1 (Int32.ofInt 0) l0 h) (fM_readText_41 N  l0 l1 (Int32.ofInt 1) l0 h)
theorem sfM_readText_29 {xs : List Int32} (N : Nat)   (l0 : Nat) (l1 : Int32) (h : zH) (r : Int32 × zH) (e : fM_readText_29 N  l0 l1 h = some r) : zt xs (3) 230 29 [(0, .ref l0), (1, .int l1)] [] h 0 0 (zQ cI r) := by
  have hy := mfM_readText
  unfold fM_readText_29 at e
  exact zl hy 2 (pc2 := 31) (lv2 := [(0, .ref l0), (1, .int l1)]) (st2 := [.int l1, .ref l0]) rfl <| zx_bip hy (c := 120) rfl (by decide) <| zx_c hy rfl e (fun _ e => zl hy 1 (pc2 := 41) (lv2 := [(0, .ref l0), (1, .int l1)]) (st2 := [.int (Int32.ofInt 0), .ref l0]) rfl <| zt_sub (z_fc rfl (z_fc rfl (z_fn))) <| sfM_readText_41 N   l0 l1 (Int32.ofInt 0) l0 h _ e) (fun _ e => zl hy 2 (pc2 := 41) (lv2 := [(0, .ref l0), (1, .int l1)]) (st2 := [.int (Int32.ofInt 1), .ref l0]) rfl <| zt_sub (z_fc rfl (z_fc rfl (z_fn))) <| sfM_readText_41 N   l0 l1 (Int32.ofInt 1) l0 h _ e)
def fM_readText_2 (N : Nat) : Nat → Nat → Int32 → zH → Option (Int32 × zH)
  | 0, _, _, _ => none
  | n + 1, l0, l1, h => b1 (fI h l0 5 10) fun x1 => cond (z_cmp .ge l1 x1) (fM_readText_29 N  l0 l1 h) (b1 (fR h l0 5 6) fun x2 => b1 (fAI h x2 100 l1) fun x3 => b2 (fM_isLetter N l0 x3 h) fun x4 h5 => cond (z_cmp .eq x4 (Int32.ofInt 0)) (fM_readText_29 N  l0 l1 h5) (fM_readText_2 N n  l0 (l1 + Int32.ofInt 1) h5))
theorem sfM_readText_2 {xs : List Int32} (N : Nat)   : ∀ (n : Nat) (l0 : Nat) (l1 : Int32) (h : zH) (r : Int32 × zH), fM_readText_2 N n  l0 l1 h = some r → zt xs (3) 230 2 [(0, .ref l0), (1, .int l1)] [] h 0 0 (zQ cI r) := by
  have hy := mfM_readText
  intro n
  induction n with
  | zero =>
    intro l0 l1 h r e
    rw [fM_readText_2] at e
    cases e
  | succ n ih =>
    intro l0 l1 h r e
    rw [fM_readText_2] at e
    exact zl hy 2 (pc2 := 4) (lv2 := [(0, .ref l0), (1, .int l1)]) (st2 := [.ref l0, .int l1]) rfl <| zx_gI hy rfl e fun x1 _ e => zx_c hy rfl e (fun _ e => zt_sub (z_fc rfl (z_fc rfl (z_fn))) <| sfM_readText_29 N   l0 l1 h _ e) (fun _ e => zl hy 2 (pc2 := 12) (lv2 := [(0, .ref l0), (1, .int l1)]) (st2 := [.ref l0, .ref l0]) rfl <| zx_gR hy rfl e fun x2 _ e => zl hy 1 (pc2 := 16) (lv2 := [(0, .ref l0), (1, .int l1)]) (st2 := [.int l1, .ref x2, .ref l0]) rfl <| zx_aI hy (j := .iaload) (Or.inl ⟨rfl, rfl⟩) rfl e fun x3 _ e => zx_call hy (as := [.ref l0, .int x3]) (rest := []) (ov := (fun v => some (.int v))) (fun _ => rfl) rfl rfl (Or.inl rfl) rfl rfl (Nat.le_of_ble_eq_true rfl) (Nat.le_of_ble_eq_true rfl) (fun _ e _ => z_rcvT (rfM_isLetter N l0 x3 h _ e)) (fun _ e => zt_deep (Nat.le_of_ble_eq_true rfl) (sfM_isLetter N l0 x3 h _ e)) e fun x4 h5 _ e => zx_c0 hy rfl e (fun _ e => zt_sub (z_fc rfl (z_fc rfl (z_fn))) <| sfM_readText_29 N   l0 l1 h5 _ e) (fun _ e => zl hy 2 (pc2 := 2) (lv2 := [(1, .int (l1 + Int32.ofInt 1)), (0, .ref l0)]) (st2 := []) rfl <| zt_sub (z_fc rfl (z_fc rfl (z_fn))) <| ih l0 (l1 + Int32.ofInt 1) h5 _ e))
def fM_readText (N : Nat) (l0 : Nat) (h : zH) : Option (Int32 × zH) := cond (fT h l0 5) (fM_readText_2 N N  l0 (Int32.ofInt 0) h) none
theorem sfM_readText {xs : List Int32} (N : Nat) (l0 : Nat) (h : zH) (r : Int32 × zH) (e : fM_readText N l0 h = some r) : zt xs (3) 230 0 [(0, .ref l0)] [] h 0 0 (zQ cI r) := by
  have hy := mfM_readText
  unfold fM_readText at e
  replace e := (cond_some e).2
  exact zl hy 2 (pc2 := 2) (lv2 := [(1, .int (Int32.ofInt 0)), (0, .ref l0)]) (st2 := []) rfl <| zt_sub (z_fc rfl (z_fc rfl (z_fn))) <| sfM_readText_2 N   N l0 (Int32.ofInt 0) h _ e
theorem rfM_readText (N : Nat) (l0 : Nat) (h : zH) (r : Int32 × zH) (e : fM_readText N l0 h = some r) : fT h l0 5 = true := by
  unfold fM_readText at e
  exact (cond_some e).1
/-- LyndonBenchModel.appendLetter(I)I -/
theorem mfM_appendLetter : z_me 231 zc_231 2 [] (some .int) := ⟨z_me0 rfl, rfl, rfl, rfl⟩
def fM_appendLetter_30 (N : Nat)  (l0 : Nat) (l1 : Int32) (s0 : Int32) (s1 : Int32) (s2 : Nat) (h : zH) : Option (Int32 × zH) := b2 (fM_throwsOne2 N s2 s1 s0 h) fun x5 h6 => cond (z_cmp .eq x5 (Int32.ofInt 0)) (b2 (fM_begins N l0 h6) fun _ h8 => b2 (fM_appends N l0 (l1 - (Int32.ofInt 97)) h8) fun x9 h10 => b2 (fM_remember N l0 x9 h10) fun x11 h12 => some (x11, h12)) (some ((Int32.ofInt 0), h6))
theorem sfM_appendLetter_30 {xs : List Int32} (N : Nat)   (l0 : Nat) (l1 : Int32) (s0 : Int32) (s1 : Int32) (s2 : Nat) (h : zH) (r : Int32 × zH) (e : fM_appendLetter_30 N  l0 l1 s0 s1 s2 h = some r) : zt xs (5) 231 30 [(0, .ref l0), (1, .int l1)] [.int s0, .int s1, .ref s2] h 0 0 (zQ cI r) := by
  have hy := mfM_appendLetter
  unfold fM_appendLetter_30 at e
  exact zx_call hy (as := [.ref s2, .int s1, .int s0]) (rest := []) (ov := (fun v => some (.int v))) (fun _ => rfl) rfl rfl (Or.inl rfl) rfl rfl (Nat.le_of_ble_eq_true rfl) (Nat.le_of_ble_eq_true rfl) (fun _ e _ => z_rcvT (rfM_throwsOne2 N s2 s1 s0 h _ e)) (fun _ e => zt_deep (Nat.le_of_ble_eq_true rfl) (sfM_throwsOne2 N s2 s1 s0 h _ e)) e fun x5 h6 _ e => zx_c0 hy rfl e (fun _ e => zl hy 1 (pc2 := 39) (lv2 := [(0, .ref l0), (1, .int l1)]) (st2 := [.ref l0]) rfl <| zx_call hy (as := [.ref l0]) (rest := []) (ov := (fun _ => none)) (fun _ => rfl) rfl rfl (Or.inl rfl) rfl rfl (Nat.le_of_ble_eq_true rfl) (Nat.le_of_ble_eq_true rfl) (fun _ e _ => z_rcvT (rfM_begins N l0 h6 _ e)) (fun _ e => zt_deep (Nat.le_of_ble_eq_true rfl) (sfM_begins N l0 h6 _ e)) e fun _ h8 _ e => zl hy 3 (pc2 := 45) (lv2 := [(0, .ref l0), (1, .int l1)]) (st2 := [.int l1, .ref l0, .ref l0]) rfl <| zx_bip hy (c := 97) rfl (by decide) <| zl hy 1 (pc2 := 48) (lv2 := [(0, .ref l0), (1, .int l1)]) (st2 := [.int (l1 - (Int32.ofInt 97)), .ref l0, .ref l0]) rfl <| zx_call hy (as := [.ref l0, .int (l1 - (Int32.ofInt 97))]) (rest := [.ref l0]) (ov := (fun v => some (.int v))) (fun _ => rfl) rfl rfl (Or.inl rfl) rfl rfl (Nat.le_of_ble_eq_true rfl) (Nat.le_of_ble_eq_true rfl) (fun _ e _ => z_rcvT (rfM_appends N l0 (l1 - (Int32.ofInt 97)) h8 _ e)) (fun _ e => zt_deep (Nat.le_of_ble_eq_true rfl) (sfM_appends N l0 (l1 - (Int32.ofInt 97)) h8 _ e)) e fun x9 h10 _ e => zx_call hy (as := [.ref l0, .int x9]) (rest := []) (ov := (fun v => some (.int v))) (fun _ => rfl) rfl rfl (Or.inl rfl) rfl rfl (Nat.le_of_ble_eq_true rfl) (Nat.le_of_ble_eq_true rfl) (fun _ e _ => z_rcvT (rfM_remember N l0 x9 h10 _ e)) (fun _ e => zt_deep (Nat.le_of_ble_eq_true rfl) (sfM_remember N l0 x9 h10 _ e)) e fun x11 h12 _ e => zx_ret hy rfl rfl rfl rfl e) (fun _ e => zl hy 1 (pc2 := 37) (lv2 := [(0, .ref l0), (1, .int l1)]) (st2 := [.int (Int32.ofInt 0)]) rfl <| zx_ret hy rfl rfl rfl rfl e)
def fM_appendLetter_14 (N : Nat)  (l0 : Nat) (l1 : Int32) (s0 : Int32) (s1 : Nat) (h : zH) : Option (Int32 × zH) := b1 (fR h l0 5 0) fun x3 => b1 (fAI h x3 100 (Int32.ofInt 1)) fun x4 => cond (z_cmp .ne x4 (Int32.ofInt 120)) (fM_appendLetter_30 N  l0 l1 (Int32.ofInt 0) s0 s1 h) (fM_appendLetter_30 N  l0 l1 (Int32.ofInt 1) s0 s1 h)
theorem sfM_appendLetter_14 {xs : List Int32} (N : Nat)   (l0 : Nat) (l1 : Int32) (s0 : Int32) (s1 : Nat) (h : zH) (r : Int32 × zH) (e : fM_appendLetter_14 N  l0 l1 s0 s1 h = some r) : zt xs (5) 231 14 [(0, .ref l0), (1, .int l1)] [.int s0, .ref s1] h 0 0 (zQ cI r) := by
  have hy := mfM_appendLetter
  unfold fM_appendLetter_14 at e
  exact zl hy 1 (pc2 := 15) (lv2 := [(0, .ref l0), (1, .int l1)]) (st2 := [.ref l0, .int s0, .ref s1]) rfl <| zx_gR hy rfl e fun x3 _ e => zl hy 1 (pc2 := 19) (lv2 := [(0, .ref l0), (1, .int l1)]) (st2 := [.int (Int32.ofInt 1), .ref x3, .int s0, .ref s1]) rfl <| zx_aI hy (j := .iaload) (Or.inl ⟨rfl, rfl⟩) rfl e fun x4 _ e => zx_bip hy (c := 120) rfl (by decide) <| zx_c hy rfl e (fun _ e => zl hy 1 (pc2 := 30) (lv2 := [(0, .ref l0), (1, .int l1)]) (st2 := [.int (Int32.ofInt 0), .int s0, .ref s1]) rfl <| zt_sub (z_fc rfl (z_fc rfl (z_fn))) <| sfM_appendLetter_30 N   l0 l1 (Int32.ofInt 0) s0 s1 h _ e) (fun _ e => zl hy 2 (pc2 := 30) (lv2 := [(0, .ref l0), (1, .int l1)]) (st2 := [.int (Int32.ofInt 1), .int s0, .ref s1]) rfl <| zt_sub (z_fc rfl (z_fc rfl (z_fn))) <| sfM_appendLetter_30 N   l0 l1 (Int32.ofInt 1) s0 s1 h _ e)
def fM_appendLetter (N : Nat) (l0 : Nat) (l1 : Int32) (h : zH) : Option (Int32 × zH) := cond (fT h l0 5) (b2 (fM_isLetter N l0 l1 h) fun x1 h2 => cond (z_cmp .ne x1 (Int32.ofInt 0)) (fM_appendLetter_14 N  l0 l1 (Int32.ofInt 0) l0 h2) (fM_appendLetter_14 N  l0 l1 (Int32.ofInt 1) l0 h2)) none
theorem sfM_appendLetter {xs : List Int32} (N : Nat) (l0 : Nat) (l1 : Int32) (h : zH) (r : Int32 × zH) (e : fM_appendLetter N l0 l1 h = some r) : zt xs (5) 231 0 [(0, .ref l0), (1, .int l1)] [] h 0 0 (zQ cI r) := by
  have hy := mfM_appendLetter
  unfold fM_appendLetter at e
  replace e := (cond_some e).2
  exact zl hy 3 (pc2 := 3) (lv2 := [(0, .ref l0), (1, .int l1)]) (st2 := [.int l1, .ref l0, .ref l0]) rfl <| zx_call hy (as := [.ref l0, .int l1]) (rest := [.ref l0]) (ov := (fun v => some (.int v))) (fun _ => rfl) rfl rfl (Or.inl rfl) rfl rfl (Nat.le_of_ble_eq_true rfl) (Nat.le_of_ble_eq_true rfl) (fun _ e _ => z_rcvT (rfM_isLetter N l0 l1 h _ e)) (fun _ e => zt_deep (Nat.le_of_ble_eq_true rfl) (sfM_isLetter N l0 l1 h _ e)) e fun x1 h2 _ e => zx_c0 hy rfl e (fun _ e => zl hy 1 (pc2 := 14) (lv2 := [(0, .ref l0), (1, .int l1)]) (st2 := [.int (Int32.ofInt 0), .ref l0]) rfl <| zt_sub (z_fc rfl (z_fc rfl (z_fn))) <| sfM_appendLetter_14 N   l0 l1 (Int32.ofInt 0) l0 h2 _ e) (fun _ e => zl hy 2 (pc2 := 14) (lv2 := [(0, .ref l0), (1, .int l1)]) (st2 := [.int (Int32.ofInt 1), .ref l0]) rfl <| zt_sub (z_fc rfl (z_fc rfl (z_fn))) <| sfM_appendLetter_14 N   l0 l1 (Int32.ofInt 1) l0 h2 _ e)
theorem rfM_appendLetter (N : Nat) (l0 : Nat) (l1 : Int32) (h : zH) (r : Int32 × zH) (e : fM_appendLetter N l0 l1 h = some r) : fT h l0 5 = true := by
  unfold fM_appendLetter at e
  exact (cond_some e).1
/-- LyndonBenchModel.dropLast(I)I -/
theorem mfM_dropLast : z_me 232 zc_232 2 [] (some .int) := ⟨z_me0 rfl, rfl, rfl, rfl⟩
def fM_dropLast_20 (N : Nat)  (l0 : Nat) (l1 : Int32) (s0 : Int32) (s1 : Nat) (h : zH) : Option (Int32 × zH) := b2 (fM_throwsOne N s1 s0 h) fun x5 h6 => cond (z_cmp .eq x5 (Int32.ofInt 0)) (b2 (fM_begins N l0 h6) fun _ h8 => b2 (fM_drops N l0 l1 h8) fun x9 h10 => b2 (fM_remember N l0 x9 h10) fun x11 h12 => some (x11, h12)) (some ((Int32.ofInt 0), h6))
theorem sfM_dropLast_20 {xs : List Int32} (N : Nat)   (l0 : Nat) (l1 : Int32) (s0 : Int32) (s1 : Nat) (h : zH) (r : Int32 × zH) (e : fM_dropLast_20 N  l0 l1 s0 s1 h = some r) : zt xs (5) 232 20 [(0, .ref l0), (1, .int l1)] [.int s0, .ref s1] h 0 0 (zQ cI r) := by
  have hy := mfM_dropLast
  unfold fM_dropLast_20 at e
  exact zx_call hy (as := [.ref s1, .int s0]) (rest := []) (ov := (fun v => some (.int v))) (fun _ => rfl) rfl rfl (Or.inl rfl) rfl rfl (Nat.le_of_ble_eq_true rfl) (Nat.le_of_ble_eq_true rfl) (fun _ e _ => z_rcvT (rfM_throwsOne N s1 s0 h _ e)) (fun _ e => zt_deep (Nat.le_of_ble_eq_true rfl) (sfM_throwsOne N s1 s0 h _ e)) e fun x5 h6 _ e => zx_c0 hy rfl e (fun _ e => zl hy 1 (pc2 := 29) (lv2 := [(0, .ref l0), (1, .int l1)]) (st2 := [.ref l0]) rfl <| zx_call hy (as := [.ref l0]) (rest := []) (ov := (fun _ => none)) (fun _ => rfl) rfl rfl (Or.inl rfl) rfl rfl (Nat.le_of_ble_eq_true rfl) (Nat.le_of_ble_eq_true rfl) (fun _ e _ => z_rcvT (rfM_begins N l0 h6 _ e)) (fun _ e => zt_deep (Nat.le_of_ble_eq_true rfl) (sfM_begins N l0 h6 _ e)) e fun _ h8 _ e => zl hy 3 (pc2 := 35) (lv2 := [(0, .ref l0), (1, .int l1)]) (st2 := [.int l1, .ref l0, .ref l0]) rfl <| zx_call hy (as := [.ref l0, .int l1]) (rest := [.ref l0]) (ov := (fun v => some (.int v))) (fun _ => rfl) rfl rfl (Or.inl rfl) rfl rfl (Nat.le_of_ble_eq_true rfl) (Nat.le_of_ble_eq_true rfl) (fun _ e _ => z_rcvT (rfM_drops N l0 l1 h8 _ e)) (fun _ e => zt_deep (Nat.le_of_ble_eq_true rfl) (sfM_drops N l0 l1 h8 _ e)) e fun x9 h10 _ e => zx_call hy (as := [.ref l0, .int x9]) (rest := []) (ov := (fun v => some (.int v))) (fun _ => rfl) rfl rfl (Or.inl rfl) rfl rfl (Nat.le_of_ble_eq_true rfl) (Nat.le_of_ble_eq_true rfl) (fun _ e _ => z_rcvT (rfM_remember N l0 x9 h10 _ e)) (fun _ e => zt_deep (Nat.le_of_ble_eq_true rfl) (sfM_remember N l0 x9 h10 _ e)) e fun x11 h12 _ e => zx_ret hy rfl rfl rfl rfl e) (fun _ e => zl hy 1 (pc2 := 27) (lv2 := [(0, .ref l0), (1, .int l1)]) (st2 := [.int (Int32.ofInt 0)]) rfl <| zx_ret hy rfl rfl rfl rfl e)
def fM_dropLast (N : Nat) (l0 : Nat) (l1 : Int32) (h : zH) : Option (Int32 × zH) := cond (fT h l0 5) (b1 (fR h l0 5 0) fun x1 => b1 (fAI h x1 100 (Int32.ofInt 1)) fun x2 => b2 (fM_in N l1 (Int32.ofInt 0) x2 h) fun x3 h4 => cond (z_cmp .ne x3 (Int32.ofInt 0)) (fM_dropLast_20 N  l0 l1 (Int32.ofInt 0) l0 h4) (fM_dropLast_20 N  l0 l1 (Int32.ofInt 1) l0 h4)) none
theorem sfM_dropLast {xs : List Int32} (N : Nat) (l0 : Nat) (l1 : Int32) (h : zH) (r : Int32 × zH) (e : fM_dropLast N l0 l1 h = some r) : zt xs (5) 232 0 [(0, .ref l0), (1, .int l1)] [] h 0 0 (zQ cI r) := by
  have hy := mfM_dropLast
  unfold fM_dropLast at e
  replace e := (cond_some e).2
  exact zl hy 4 (pc2 := 4) (lv2 := [(0, .ref l0), (1, .int l1)]) (st2 := [.ref l0, .int (Int32.ofInt 0), .int l1, .ref l0]) rfl <| zx_gR hy rfl e fun x1 _ e => zl hy 1 (pc2 := 8) (lv2 := [(0, .ref l0), (1, .int l1)]) (st2 := [.int (Int32.ofInt 1), .ref x1, .int (Int32.ofInt 0), .int l1, .ref l0]) rfl <| zx_aI hy (j := .iaload) (Or.inl ⟨rfl, rfl⟩) rfl e fun x2 _ e => zx_call hy (as := [.int l1, .int (Int32.ofInt 0), .int x2]) (rest := [.ref l0]) (ov := (fun v => some (.int v))) (fun _ => rfl) rfl rfl (Or.inr (Or.inl rfl)) rfl rfl (Nat.le_of_ble_eq_true rfl) (Nat.le_of_ble_eq_true rfl) (fun _ _ hz => absurd rfl hz) (fun _ e => zt_deep (Nat.le_of_ble_eq_true rfl) (sfM_in N l1 (Int32.ofInt 0) x2 h _ e)) e fun x3 h4 _ e => zx_c0 hy rfl e (fun _ e => zl hy 1 (pc2 := 20) (lv2 := [(0, .ref l0), (1, .int l1)]) (st2 := [.int (Int32.ofInt 0), .ref l0]) rfl <| zt_sub (z_fc rfl (z_fc rfl (z_fn))) <| sfM_dropLast_20 N   l0 l1 (Int32.ofInt 0) l0 h4 _ e) (fun _ e => zl hy 2 (pc2 := 20) (lv2 := [(0, .ref l0), (1, .int l1)]) (st2 := [.int (Int32.ofInt 1), .ref l0]) rfl <| zt_sub (z_fc rfl (z_fc rfl (z_fn))) <| sfM_dropLast_20 N   l0 l1 (Int32.ofInt 1) l0 h4 _ e)
theorem rfM_dropLast (N : Nat) (l0 : Nat) (l1 : Int32) (h : zH) (r : Int32 × zH) (e : fM_dropLast N l0 l1 h = some r) : fT h l0 5 = true := by
  unfold fM_dropLast at e
  exact (cond_some e).1
/-- LyndonBenchModel.cutPart(II)I -/
theorem mfM_cutPart : z_me 233 zc_233 3 [] (some .int) := ⟨z_me0 rfl, rfl, rfl, rfl⟩
def fM_cutPart_25 (N : Nat)  (l0 : Nat) (l1 : Int32) (l2 : Int32) (s0 : Int32) (s1 : Nat) (h : zH) : Option (Int32 × zH) := b2 (fM_throwsOne N s1 s0 h) fun x1 h2 => cond (z_cmp .eq x1 (Int32.ofInt 0)) (b2 (fM_begins N l0 h2) fun _ h4 => b2 (fM_parts N l0 l1 l2 h4) fun x5 h6 => b2 (fM_remember N l0 x5 h6) fun x7 h8 => some (x7, h8)) (some ((Int32.ofInt 0), h2))
theorem sfM_cutPart_25 {xs : List Int32} (N : Nat)   (l0 : Nat) (l1 : Int32) (l2 : Int32) (s0 : Int32) (s1 : Nat) (h : zH) (r : Int32 × zH) (e : fM_cutPart_25 N  l0 l1 l2 s0 s1 h = some r) : zt xs (3) 233 25 [(0, .ref l0), (1, .int l1), (2, .int l2)] [.int s0, .ref s1] h 0 0 (zQ cI r) := by
  have hy := mfM_cutPart
  unfold fM_cutPart_25 at e
  exact zx_call hy (as := [.ref s1, .int s0]) (rest := []) (ov := (fun v => some (.int v))) (fun _ => rfl) rfl rfl (Or.inl rfl) rfl rfl (Nat.le_of_ble_eq_true rfl) (Nat.le_of_ble_eq_true rfl) (fun _ e _ => z_rcvT (rfM_throwsOne N s1 s0 h _ e)) (fun _ e => zt_deep (Nat.le_of_ble_eq_true rfl) (sfM_throwsOne N s1 s0 h _ e)) e fun x1 h2 _ e => zx_c0 hy rfl e (fun _ e => zl hy 1 (pc2 := 34) (lv2 := [(0, .ref l0), (1, .int l1), (2, .int l2)]) (st2 := [.ref l0]) rfl <| zx_call hy (as := [.ref l0]) (rest := []) (ov := (fun _ => none)) (fun _ => rfl) rfl rfl (Or.inl rfl) rfl rfl (Nat.le_of_ble_eq_true rfl) (Nat.le_of_ble_eq_true rfl) (fun _ e _ => z_rcvT (rfM_begins N l0 h2 _ e)) (fun _ e => zt_deep (Nat.le_of_ble_eq_true rfl) (sfM_begins N l0 h2 _ e)) e fun _ h4 _ e => zl hy 4 (pc2 := 41) (lv2 := [(0, .ref l0), (1, .int l1), (2, .int l2)]) (st2 := [.int l2, .int l1, .ref l0, .ref l0]) rfl <| zx_call hy (as := [.ref l0, .int l1, .int l2]) (rest := [.ref l0]) (ov := (fun v => some (.int v))) (fun _ => rfl) rfl rfl (Or.inl rfl) rfl rfl (Nat.le_of_ble_eq_true rfl) (Nat.le_of_ble_eq_true rfl) (fun _ e _ => z_rcvT (rfM_parts N l0 l1 l2 h4 _ e)) (fun _ e => zt_deep (Nat.le_of_ble_eq_true rfl) (sfM_parts N l0 l1 l2 h4 _ e)) e fun x5 h6 _ e => zx_call hy (as := [.ref l0, .int x5]) (rest := []) (ov := (fun v => some (.int v))) (fun _ => rfl) rfl rfl (Or.inl rfl) rfl rfl (Nat.le_of_ble_eq_true rfl) (Nat.le_of_ble_eq_true rfl) (fun _ e _ => z_rcvT (rfM_remember N l0 x5 h6 _ e)) (fun _ e => zt_deep (Nat.le_of_ble_eq_true rfl) (sfM_remember N l0 x5 h6 _ e)) e fun x7 h8 _ e => zx_ret hy rfl rfl rfl rfl e) (fun _ e => zl hy 1 (pc2 := 32) (lv2 := [(0, .ref l0), (1, .int l1), (2, .int l2)]) (st2 := [.int (Int32.ofInt 0)]) rfl <| zx_ret hy rfl rfl rfl rfl e)
def fM_cutPart_20 (N : Nat)  (l0 : Nat) (l1 : Int32) (l2 : Int32) (s0 : Nat) (h : zH) : Option (Int32 × zH) := fM_cutPart_25 N  l0 l1 l2 (Int32.ofInt 1) s0 h
theorem sfM_cutPart_20 {xs : List Int32} (N : Nat)   (l0 : Nat) (l1 : Int32) (l2 : Int32) (s0 : Nat) (h : zH) (r : Int32 × zH) (e : fM_cutPart_20 N  l0 l1 l2 s0 h = some r) : zt xs (3) 233 20 [(0, .ref l0), (1, .int l1), (2, .int l2)] [.ref s0] h 0 0 (zQ cI r) := by
  have hy := mfM_cutPart
  unfold fM_cutPart_20 at e
  exact zl hy 2 (pc2 := 25) (lv2 := [(0, .ref l0), (1, .int l1), (2, .int l2)]) (st2 := [.int (Int32.ofInt 1), .ref s0]) rfl <| zt_sub (z_fc rfl (z_fc rfl (z_fc rfl (z_fn)))) <| sfM_cutPart_25 N   l0 l1 l2 (Int32.ofInt 1) s0 h _ e
def fM_cutPart (N : Nat) (l0 : Nat) (l1 : Int32) (l2 : Int32) (h : zH) : Option (Int32 × zH) := cond (fT h l0 5) (cond (z_cmp .lt l1 (Int32.ofInt 0)) (fM_cutPart_20 N  l0 l1 l2 l0 h) (cond (z_cmp .lt l2 l1) (fM_cutPart_20 N  l0 l1 l2 l0 h) (b1 (fR h l0 5 0) fun x1 => b1 (fAI h x1 100 (Int32.ofInt 1)) fun x2 => cond (z_cmp .le l2 x2) (fM_cutPart_25 N  l0 l1 l2 (Int32.ofInt 0) l0 h) (fM_cutPart_20 N  l0 l1 l2 l0 h)))) none
theorem sfM_cutPart {xs : List Int32} (N : Nat) (l0 : Nat) (l1 : Int32) (l2 : Int32) (h : zH) (r : Int32 × zH) (e : fM_cutPart N l0 l1 l2 h = some r) : zt xs (3) 233 0 [(0, .ref l0), (1, .int l1), (2, .int l2)] [] h 0 0 (zQ cI r) := by
  have hy := mfM_cutPart
  unfold fM_cutPart at e
  replace e := (cond_some e).2
  exact zl hy 2 (pc2 := 2) (lv2 := [(0, .ref l0), (1, .int l1), (2, .int l2)]) (st2 := [.int l1, .ref l0]) rfl <| zx_c0 hy rfl e (fun _ e => zt_sub (z_fc rfl (z_fc rfl (z_fc rfl (z_fn)))) <| sfM_cutPart_20 N   l0 l1 l2 l0 h _ e) (fun _ e => zl hy 2 (pc2 := 7) (lv2 := [(0, .ref l0), (1, .int l1), (2, .int l2)]) (st2 := [.int l1, .int l2, .ref l0]) rfl <| zx_c hy rfl e (fun _ e => zt_sub (z_fc rfl (z_fc rfl (z_fc rfl (z_fn)))) <| sfM_cutPart_20 N   l0 l1 l2 l0 h _ e) (fun _ e => zl hy 2 (pc2 := 12) (lv2 := [(0, .ref l0), (1, .int l1), (2, .int l2)]) (st2 := [.ref l0, .int l2, .ref l0]) rfl <| zx_gR hy rfl e fun x1 _ e => zl hy 1 (pc2 := 16) (lv2 := [(0, .ref l0), (1, .int l1), (2, .int l2)]) (st2 := [.int (Int32.ofInt 1), .ref x1, .int l2, .ref l0]) rfl <| zx_aI hy (j := .iaload) (Or.inl ⟨rfl, rfl⟩) rfl e fun x2 _ e => zx_c hy rfl e (fun _ e => zl hy 1 (pc2 := 25) (lv2 := [(0, .ref l0), (1, .int l1), (2, .int l2)]) (st2 := [.int (Int32.ofInt 0), .ref l0]) rfl <| zt_sub (z_fc rfl (z_fc rfl (z_fc rfl (z_fn)))) <| sfM_cutPart_25 N   l0 l1 l2 (Int32.ofInt 0) l0 h _ e) (fun _ e => zt_sub (z_fc rfl (z_fc rfl (z_fc rfl (z_fn)))) <| sfM_cutPart_20 N   l0 l1 l2 l0 h _ e)))
theorem rfM_cutPart (N : Nat) (l0 : Nat) (l1 : Int32) (l2 : Int32) (h : zH) (r : Int32 × zH) (e : fM_cutPart N l0 l1 l2 h = some r) : fT h l0 5 = true := by
  unfold fM_cutPart at e
  exact (cond_some e).1
/-- LyndonBenchModel.rotate(I)I -/
theorem mfM_rotate : z_me 234 zc_234 2 [] (some .int) := ⟨z_me0 rfl, rfl, rfl, rfl⟩
def fM_rotate_20 (N : Nat)  (l0 : Nat) (l1 : Int32) (s0 : Int32) (s1 : Nat) (h : zH) : Option (Int32 × zH) := b2 (fM_throwsOne N s1 s0 h) fun x5 h6 => cond (z_cmp .eq x5 (Int32.ofInt 0)) (b2 (fM_begins N l0 h6) fun _ h8 => b2 (fM_turns N l0 l1 h8) fun x9 h10 => b2 (fM_remember N l0 x9 h10) fun x11 h12 => some (x11, h12)) (some ((Int32.ofInt 0), h6))
theorem sfM_rotate_20 {xs : List Int32} (N : Nat)   (l0 : Nat) (l1 : Int32) (s0 : Int32) (s1 : Nat) (h : zH) (r : Int32 × zH) (e : fM_rotate_20 N  l0 l1 s0 s1 h = some r) : zt xs (5) 234 20 [(0, .ref l0), (1, .int l1)] [.int s0, .ref s1] h 0 0 (zQ cI r) := by
  have hy := mfM_rotate
  unfold fM_rotate_20 at e
  exact zx_call hy (as := [.ref s1, .int s0]) (rest := []) (ov := (fun v => some (.int v))) (fun _ => rfl) rfl rfl (Or.inl rfl) rfl rfl (Nat.le_of_ble_eq_true rfl) (Nat.le_of_ble_eq_true rfl) (fun _ e _ => z_rcvT (rfM_throwsOne N s1 s0 h _ e)) (fun _ e => zt_deep (Nat.le_of_ble_eq_true rfl) (sfM_throwsOne N s1 s0 h _ e)) e fun x5 h6 _ e => zx_c0 hy rfl e (fun _ e => zl hy 1 (pc2 := 29) (lv2 := [(0, .ref l0), (1, .int l1)]) (st2 := [.ref l0]) rfl <| zx_call hy (as := [.ref l0]) (rest := []) (ov := (fun _ => none)) (fun _ => rfl) rfl rfl (Or.inl rfl) rfl rfl (Nat.le_of_ble_eq_true rfl) (Nat.le_of_ble_eq_true rfl) (fun _ e _ => z_rcvT (rfM_begins N l0 h6 _ e)) (fun _ e => zt_deep (Nat.le_of_ble_eq_true rfl) (sfM_begins N l0 h6 _ e)) e fun _ h8 _ e => zl hy 3 (pc2 := 35) (lv2 := [(0, .ref l0), (1, .int l1)]) (st2 := [.int l1, .ref l0, .ref l0]) rfl <| zx_call hy (as := [.ref l0, .int l1]) (rest := [.ref l0]) (ov := (fun v => some (.int v))) (fun _ => rfl) rfl rfl (Or.inl rfl) rfl rfl (Nat.le_of_ble_eq_true rfl) (Nat.le_of_ble_eq_true rfl) (fun _ e _ => z_rcvT (rfM_turns N l0 l1 h8 _ e)) (fun _ e => zt_deep (Nat.le_of_ble_eq_true rfl) (sfM_turns N l0 l1 h8 _ e)) e fun x9 h10 _ e => zx_call hy (as := [.ref l0, .int x9]) (rest := []) (ov := (fun v => some (.int v))) (fun _ => rfl) rfl rfl (Or.inl rfl) rfl rfl (Nat.le_of_ble_eq_true rfl) (Nat.le_of_ble_eq_true rfl) (fun _ e _ => z_rcvT (rfM_remember N l0 x9 h10 _ e)) (fun _ e => zt_deep (Nat.le_of_ble_eq_true rfl) (sfM_remember N l0 x9 h10 _ e)) e fun x11 h12 _ e => zx_ret hy rfl rfl rfl rfl e) (fun _ e => zl hy 1 (pc2 := 27) (lv2 := [(0, .ref l0), (1, .int l1)]) (st2 := [.int (Int32.ofInt 0)]) rfl <| zx_ret hy rfl rfl rfl rfl e)
def fM_rotate (N : Nat) (l0 : Nat) (l1 : Int32) (h : zH) : Option (Int32 × zH) := cond (fT h l0 5) (b1 (fR h l0 5 0) fun x1 => b1 (fAI h x1 100 (Int32.ofInt 1)) fun x2 => b2 (fM_in N l1 (Int32.ofInt 0) x2 h) fun x3 h4 => cond (z_cmp .ne x3 (Int32.ofInt 0)) (fM_rotate_20 N  l0 l1 (Int32.ofInt 0) l0 h4) (fM_rotate_20 N  l0 l1 (Int32.ofInt 1) l0 h4)) none
theorem sfM_rotate {xs : List Int32} (N : Nat) (l0 : Nat) (l1 : Int32) (h : zH) (r : Int32 × zH) (e : fM_rotate N l0 l1 h = some r) : zt xs (5) 234 0 [(0, .ref l0), (1, .int l1)] [] h 0 0 (zQ cI r) := by
  have hy := mfM_rotate
  unfold fM_rotate at e
  replace e := (cond_some e).2
  exact zl hy 4 (pc2 := 4) (lv2 := [(0, .ref l0), (1, .int l1)]) (st2 := [.ref l0, .int (Int32.ofInt 0), .int l1, .ref l0]) rfl <| zx_gR hy rfl e fun x1 _ e => zl hy 1 (pc2 := 8) (lv2 := [(0, .ref l0), (1, .int l1)]) (st2 := [.int (Int32.ofInt 1), .ref x1, .int (Int32.ofInt 0), .int l1, .ref l0]) rfl <| zx_aI hy (j := .iaload) (Or.inl ⟨rfl, rfl⟩) rfl e fun x2 _ e => zx_call hy (as := [.int l1, .int (Int32.ofInt 0), .int x2]) (rest := [.ref l0]) (ov := (fun v => some (.int v))) (fun _ => rfl) rfl rfl (Or.inr (Or.inl rfl)) rfl rfl (Nat.le_of_ble_eq_true rfl) (Nat.le_of_ble_eq_true rfl) (fun _ _ hz => absurd rfl hz) (fun _ e => zt_deep (Nat.le_of_ble_eq_true rfl) (sfM_in N l1 (Int32.ofInt 0) x2 h _ e)) e fun x3 h4 _ e => zx_c0 hy rfl e (fun _ e => zl hy 1 (pc2 := 20) (lv2 := [(0, .ref l0), (1, .int l1)]) (st2 := [.int (Int32.ofInt 0), .ref l0]) rfl <| zt_sub (z_fc rfl (z_fc rfl (z_fn))) <| sfM_rotate_20 N   l0 l1 (Int32.ofInt 0) l0 h4 _ e) (fun _ e => zl hy 2 (pc2 := 20) (lv2 := [(0, .ref l0), (1, .int l1)]) (st2 := [.int (Int32.ofInt 1), .ref l0]) rfl <| zt_sub (z_fc rfl (z_fc rfl (z_fn))) <| sfM_rotate_20 N   l0 l1 (Int32.ofInt 1) l0 h4 _ e)
theorem rfM_rotate (N : Nat) (l0 : Nat) (l1 : Int32) (h : zH) (r : Int32 × zH) (e : fM_rotate N l0 l1 h = some r) : fT h l0 5 = true := by
  unfold fM_rotate at e
  exact (cond_some e).1
/-- LyndonBenchModel.reverse()I -/
theorem mfM_reverse : z_me 235 zc_235 1 [] (some .int) := ⟨z_me0 rfl, rfl, rfl, rfl⟩
def fM_reverse (N : Nat) (l0 : Nat) (h : zH) : Option (Int32 × zH) := cond (fT h l0 5) (b1 (fS h l0 5 17 (.int (Int32.ofInt 0))) fun h1 => b2 (fM_begins N l0 h1) fun _ h3 => b2 (fM_mirrors N l0 h3) fun x4 h5 => b2 (fM_remember N l0 x4 h5) fun x6 h7 => some (x6, h7)) none
theorem sfM_reverse {xs : List Int32} (N : Nat) (l0 : Nat) (h : zH) (r : Int32 × zH) (e : fM_reverse N l0 h = some r) : zt xs (5) 235 0 [(0, .ref l0)] [] h 0 0 (zQ cI r) := by
  have hy := mfM_reverse
  unfold fM_reverse at e
  replace e := (cond_some e).2
  exact zl hy 2 (pc2 := 2) (lv2 := [(0, .ref l0)]) (st2 := [.int (Int32.ofInt 0), .ref l0]) rfl <| zx_pf hy rfl e (rfl) fun h1 _ e => zl hy 1 (pc2 := 6) (lv2 := [(0, .ref l0)]) (st2 := [.ref l0]) rfl <| zx_call hy (as := [.ref l0]) (rest := []) (ov := (fun _ => none)) (fun _ => rfl) rfl rfl (Or.inl rfl) rfl rfl (Nat.le_of_ble_eq_true rfl) (Nat.le_of_ble_eq_true rfl) (fun _ e _ => z_rcvT (rfM_begins N l0 h1 _ e)) (fun _ e => zt_deep (Nat.le_of_ble_eq_true rfl) (sfM_begins N l0 h1 _ e)) e fun _ h3 _ e => zl hy 2 (pc2 := 11) (lv2 := [(0, .ref l0)]) (st2 := [.ref l0, .ref l0]) rfl <| zx_call hy (as := [.ref l0]) (rest := [.ref l0]) (ov := (fun v => some (.int v))) (fun _ => rfl) rfl rfl (Or.inl rfl) rfl rfl (Nat.le_of_ble_eq_true rfl) (Nat.le_of_ble_eq_true rfl) (fun _ e _ => z_rcvT (rfM_mirrors N l0 h3 _ e)) (fun _ e => zt_deep (Nat.le_of_ble_eq_true rfl) (sfM_mirrors N l0 h3 _ e)) e fun x4 h5 _ e => zx_call hy (as := [.ref l0, .int x4]) (rest := []) (ov := (fun v => some (.int v))) (fun _ => rfl) rfl rfl (Or.inl rfl) rfl rfl (Nat.le_of_ble_eq_true rfl) (Nat.le_of_ble_eq_true rfl) (fun _ e _ => z_rcvT (rfM_remember N l0 x4 h5 _ e)) (fun _ e => zt_deep (Nat.le_of_ble_eq_true rfl) (sfM_remember N l0 x4 h5 _ e)) e fun x6 h7 _ e => zx_ret hy rfl rfl rfl rfl e
theorem rfM_reverse (N : Nat) (l0 : Nat) (h : zH) (r : Int32 × zH) (e : fM_reverse N l0 h = some r) : fT h l0 5 = true := by
  unfold fM_reverse at e
  exact (cond_some e).1
/-- LyndonBenchModel.rotateToLeast()I -/
theorem mfM_rotateToLeast : z_me 236 zc_236 1 [] (some .int) := ⟨z_me0 rfl, rfl, rfl, rfl⟩
def fM_rotateToLeast_15 (N : Nat)  (l0 : Nat) (s0 : Int32) (s1 : Nat) (h : zH) : Option (Int32 × zH) := b2 (fM_throwsOne N s1 s0 h) fun x3 h4 => cond (z_cmp .eq x3 (Int32.ofInt 0)) (b2 (fM_begins N l0 h4) fun _ h6 => b2 (fM_turnsToLeast N l0 h6) fun x7 h8 => b2 (fM_remember N l0 x7 h8) fun x9 h10 => some (x9, h10)) (some ((Int32.ofInt 0), h4))
theorem sfM_rotateToLeast_15 {xs : List Int32} (N : Nat)   (l0 : Nat) (s0 : Int32) (s1 : Nat) (h : zH) (r : Int32 × zH) (e : fM_rotateToLeast_15 N  l0 s0 s1 h = some r) : zt xs (6) 236 15 [(0, .ref l0)] [.int s0, .ref s1] h 0 0 (zQ cI r) := by
  have hy := mfM_rotateToLeast
  unfold fM_rotateToLeast_15 at e
  exact zx_call hy (as := [.ref s1, .int s0]) (rest := []) (ov := (fun v => some (.int v))) (fun _ => rfl) rfl rfl (Or.inl rfl) rfl rfl (Nat.le_of_ble_eq_true rfl) (Nat.le_of_ble_eq_true rfl) (fun _ e _ => z_rcvT (rfM_throwsOne N s1 s0 h _ e)) (fun _ e => zt_deep (Nat.le_of_ble_eq_true rfl) (sfM_throwsOne N s1 s0 h _ e)) e fun x3 h4 _ e => zx_c0 hy rfl e (fun _ e => zl hy 1 (pc2 := 24) (lv2 := [(0, .ref l0)]) (st2 := [.ref l0]) rfl <| zx_call hy (as := [.ref l0]) (rest := []) (ov := (fun _ => none)) (fun _ => rfl) rfl rfl (Or.inl rfl) rfl rfl (Nat.le_of_ble_eq_true rfl) (Nat.le_of_ble_eq_true rfl) (fun _ e _ => z_rcvT (rfM_begins N l0 h4 _ e)) (fun _ e => zt_deep (Nat.le_of_ble_eq_true rfl) (sfM_begins N l0 h4 _ e)) e fun _ h6 _ e => zl hy 2 (pc2 := 29) (lv2 := [(0, .ref l0)]) (st2 := [.ref l0, .ref l0]) rfl <| zx_call hy (as := [.ref l0]) (rest := [.ref l0]) (ov := (fun v => some (.int v))) (fun _ => rfl) rfl rfl (Or.inl rfl) rfl rfl (Nat.le_of_ble_eq_true rfl) (Nat.le_of_ble_eq_true rfl) (fun _ e _ => z_rcvT (rfM_turnsToLeast N l0 h6 _ e)) (fun _ e => zt_deep (Nat.le_of_ble_eq_true rfl) (sfM_turnsToLeast N l0 h6 _ e)) e fun x7 h8 _ e => zx_call hy (as := [.ref l0, .int x7]) (rest := []) (ov := (fun v => some (.int v))) (fun _ => rfl) rfl rfl (Or.inl rfl) rfl rfl (Nat.le_of_ble_eq_true rfl) (Nat.le_of_ble_eq_true rfl) (fun _ e _ => z_rcvT (rfM_remember N l0 x7 h8 _ e)) (fun _ e => zt_deep (Nat.le_of_ble_eq_true rfl) (sfM_remember N l0 x7 h8 _ e)) e fun x9 h10 _ e => zx_ret hy rfl rfl rfl rfl e) (fun _ e => zl hy 1 (pc2 := 22) (lv2 := [(0, .ref l0)]) (st2 := [.int (Int32.ofInt 0)]) rfl <| zx_ret hy rfl rfl rfl rfl e)
def fM_rotateToLeast (N : Nat) (l0 : Nat) (h : zH) : Option (Int32 × zH) := cond (fT h l0 5) (b1 (fR h l0 5 0) fun x1 => b1 (fAI h x1 100 (Int32.ofInt 1)) fun x2 => cond (z_cmp .ne x2 (Int32.ofInt 0)) (fM_rotateToLeast_15 N  l0 (Int32.ofInt 0) l0 h) (fM_rotateToLeast_15 N  l0 (Int32.ofInt 1) l0 h)) none
theorem sfM_rotateToLeast {xs : List Int32} (N : Nat) (l0 : Nat) (h : zH) (r : Int32 × zH) (e : fM_rotateToLeast N l0 h = some r) : zt xs (6) 236 0 [(0, .ref l0)] [] h 0 0 (zQ cI r) := by
  have hy := mfM_rotateToLeast
  unfold fM_rotateToLeast at e
  replace e := (cond_some e).2
  exact zl hy 2 (pc2 := 2) (lv2 := [(0, .ref l0)]) (st2 := [.ref l0, .ref l0]) rfl <| zx_gR hy rfl e fun x1 _ e => zl hy 1 (pc2 := 6) (lv2 := [(0, .ref l0)]) (st2 := [.int (Int32.ofInt 1), .ref x1, .ref l0]) rfl <| zx_aI hy (j := .iaload) (Or.inl ⟨rfl, rfl⟩) rfl e fun x2 _ e => zx_c0 hy rfl e (fun _ e => zl hy 1 (pc2 := 15) (lv2 := [(0, .ref l0)]) (st2 := [.int (Int32.ofInt 0), .ref l0]) rfl <| zt_sub (z_fc rfl (z_fn)) <| sfM_rotateToLeast_15 N   l0 (Int32.ofInt 0) l0 h _ e) (fun _ e => zl hy 2 (pc2 := 15) (lv2 := [(0, .ref l0)]) (st2 := [.int (Int32.ofInt 1), .ref l0]) rfl <| zt_sub (z_fc rfl (z_fn)) <| sfM_rotateToLeast_15 N   l0 (Int32.ofInt 1) l0 h _ e)
theorem rfM_rotateToLeast (N : Nat) (l0 : Nat) (h : zH) (r : Int32 × zH) (e : fM_rotateToLeast N l0 h = some r) : fT h l0 5 = true := by
  unfold fM_rotateToLeast at e
  exact (cond_some e).1
/-- LyndonBenchModel.nextLyndon(I)I -/
theorem mfM_nextLyndon : z_me 237 zc_237 3 [] (some .int) := ⟨z_me0 rfl, rfl, rfl, rfl⟩
def fM_nextLyndon_35 (N : Nat)  (l0 : Nat) (l1 : Int32) (s0 : Int32) (s1 : Int32) (s2 : Nat) (h : zH) : Option (Int32 × zH) := b2 (fM_throwsOne2 N s2 s1 s0 h) fun x3 h4 => cond (z_cmp .eq x3 (Int32.ofInt 0)) (b2 (fM_begins N l0 h4) fun _ h6 => b2 (fM_goesOn N l0 l1 h6) fun x7 h8 => b2 (fM_remember N l0 x7 h8) fun x9 h10 => some (x9, h10)) (some ((Int32.ofInt 0), h4))
theorem sfM_nextLyndon_35 {xs : List Int32} (N : Nat)   (l0 : Nat) (l1 : Int32) (s0 : Int32) (s1 : Int32) (s2 : Nat) (h : zH) (r : Int32 × zH) (e : fM_nextLyndon_35 N  l0 l1 s0 s1 s2 h = some r) : zt xs (5) 237 35 [(0, .ref l0), (1, .int l1)] [.int s0, .int s1, .ref s2] h 0 0 (zQ cI r) := by
  have hy := mfM_nextLyndon
  unfold fM_nextLyndon_35 at e
  exact zx_call hy (as := [.ref s2, .int s1, .int s0]) (rest := []) (ov := (fun v => some (.int v))) (fun _ => rfl) rfl rfl (Or.inl rfl) rfl rfl (Nat.le_of_ble_eq_true rfl) (Nat.le_of_ble_eq_true rfl) (fun _ e _ => z_rcvT (rfM_throwsOne2 N s2 s1 s0 h _ e)) (fun _ e => zt_deep (Nat.le_of_ble_eq_true rfl) (sfM_throwsOne2 N s2 s1 s0 h _ e)) e fun x3 h4 _ e => zx_c0 hy rfl e (fun _ e => zl hy 1 (pc2 := 44) (lv2 := [(0, .ref l0), (1, .int l1)]) (st2 := [.ref l0]) rfl <| zx_call hy (as := [.ref l0]) (rest := []) (ov := (fun _ => none)) (fun _ => rfl) rfl rfl (Or.inl rfl) rfl rfl (Nat.le_of_ble_eq_true rfl) (Nat.le_of_ble_eq_true rfl) (fun _ e _ => z_rcvT (rfM_begins N l0 h4 _ e)) (fun _ e => zt_deep (Nat.le_of_ble_eq_true rfl) (sfM_begins N l0 h4 _ e)) e fun _ h6 _ e => zl hy 3 (pc2 := 50) (lv2 := [(0, .ref l0), (1, .int l1)]) (st2 := [.int l1, .ref l0, .ref l0]) rfl <| zx_call hy (as := [.ref l0, .int l1]) (rest := [.ref l0]) (ov := (fun v => some (.int v))) (fun _ => rfl) rfl rfl (Or.inl rfl) rfl rfl (Nat.le_of_ble_eq_true rfl) (Nat.le_of_ble_eq_true rfl) (fun _ e _ => z_rcvT (rfM_goesOn N l0 l1 h6 _ e)) (fun _ e => zt_deep (Nat.le_of_ble_eq_true rfl) (sfM_goesOn N l0 l1 h6 _ e)) e fun x7 h8 _ e => zx_call hy (as := [.ref l0, .int x7]) (rest := []) (ov := (fun v => some (.int v))) (fun _ => rfl) rfl rfl (Or.inl rfl) rfl rfl (Nat.le_of_ble_eq_true rfl) (Nat.le_of_ble_eq_true rfl) (fun _ e _ => z_rcvT (rfM_remember N l0 x7 h8 _ e)) (fun _ e => zt_deep (Nat.le_of_ble_eq_true rfl) (sfM_remember N l0 x7 h8 _ e)) e fun x9 h10 _ e => zx_ret hy rfl rfl rfl rfl e) (fun _ e => zl hy 1 (pc2 := 42) (lv2 := [(0, .ref l0), (1, .int l1)]) (st2 := [.int (Int32.ofInt 0)]) rfl <| zx_ret hy rfl rfl rfl rfl e)
def fM_nextLyndon_34 (N : Nat)  (l0 : Nat) (l1 : Int32) (s0 : Int32) (s1 : Nat) (h : zH) : Option (Int32 × zH) := fM_nextLyndon_35 N  l0 l1 (Int32.ofInt 0) s0 s1 h
theorem sfM_nextLyndon_34 {xs : List Int32} (N : Nat)   (l0 : Nat) (l1 : Int32) (s0 : Int32) (s1 : Nat) (h : zH) (r : Int32 × zH) (e : fM_nextLyndon_34 N  l0 l1 s0 s1 h = some r) : zt xs (5) 237 34 [(0, .ref l0), (1, .int l1)] [.int s0, .ref s1] h 0 0 (zQ cI r) := by
  have hy := mfM_nextLyndon
  unfold fM_nextLyndon_34 at e
  exact zl hy 1 (pc2 := 35) (lv2 := [(0, .ref l0), (1, .int l1)]) (st2 := [.int (Int32.ofInt 0), .int s0, .ref s1]) rfl <| zt_sub (z_fc rfl (z_fc rfl (z_fn))) <| sfM_nextLyndon_35 N   l0 l1 (Int32.ofInt 0) s0 s1 h _ e
def fM_nextLyndon_15 (N : Nat)  (l0 : Nat) (l1 : Int32) (s0 : Int32) (h : zH) : Option (Int32 × zH) := cond (z_cmp .ne s0 (Int32.ofInt 0)) (fM_nextLyndon_34 N  l0 l1 s0 l0 h) (b2 (fM_hasNext N l0 l1 h) fun x3 h4 => cond (z_cmp .ne x3 (Int32.ofInt 0)) (fM_nextLyndon_34 N  l0 l1 s0 l0 h4) (fM_nextLyndon_35 N  l0 l1 (Int32.ofInt 1) s0 l0 h4))
theorem sfM_nextLyndon_15 {xs : List Int32} (N : Nat)   (l0 : Nat) (l1 : Int32) (s0 : Int32) (h : zH) (r : Int32 × zH) (e : fM_nextLyndon_15 N  l0 l1 s0 h = some r) : zt xs (5) 237 15 [(0, .ref l0), (1, .int l1)] [.int s0] h 0 0 (zQ cI r) := by
  have hy := mfM_nextLyndon
  unfold fM_nextLyndon_15 at e
  exact zl hy 4 (pc2 := 19) (lv2 := [(2, .int s0), (0, .ref l0), (1, .int l1)]) (st2 := [.int s0, .int s0, .ref l0]) rfl <| zx_c0 hy rfl e (fun _ e => zt_sub (z_fc rfl (z_fc rfl (z_fn))) <| sfM_nextLyndon_34 N   l0 l1 s0 l0 h _ e) (fun _ e => zl hy 2 (pc2 := 24) (lv2 := [(2, .int s0), (0, .ref l0), (1, .int l1)]) (st2 := [.int l1, .ref l0, .int s0, .ref l0]) rfl <| zx_call hy (as := [.ref l0, .int l1]) (rest := [.int s0, .ref l0]) (ov := (fun v => some (.int v))) (fun _ => rfl) rfl rfl (Or.inl rfl) rfl rfl (Nat.le_of_ble_eq_true rfl) (Nat.le_of_ble_eq_true rfl) (fun _ e _ => z_rcvT (rfM_hasNext N l0 l1 h _ e)) (fun _ e => zt_deep (Nat.le_of_ble_eq_true rfl) (sfM_hasNext N l0 l1 h _ e)) e fun x3 h4 _ e => zx_c0 hy rfl e (fun _ e => zt_sub (z_fc rfl (z_fc rfl (z_fn))) <| sfM_nextLyndon_34 N   l0 l1 s0 l0 h4 _ e) (fun _ e => zl hy 2 (pc2 := 35) (lv2 := [(2, .int s0), (0, .ref l0), (1, .int l1)]) (st2 := [.int (Int32.ofInt 1), .int s0, .ref l0]) rfl <| zt_sub (z_fc rfl (z_fc rfl (z_fn))) <| sfM_nextLyndon_35 N   l0 l1 (Int32.ofInt 1) s0 l0 h4 _ e))
def fM_nextLyndon (N : Nat) (l0 : Nat) (l1 : Int32) (h : zH) : Option (Int32 × zH) := cond (fT h l0 5) (b2 (fM_in N l1 (Int32.ofInt 1) (Int32.ofInt 120) h) fun x1 h2 => cond (z_cmp .ne x1 (Int32.ofInt 0)) (fM_nextLyndon_15 N  l0 l1 (Int32.ofInt 0) h2) (fM_nextLyndon_15 N  l0 l1 (Int32.ofInt 1) h2)) none
theorem sfM_nextLyndon {xs : List Int32} (N : Nat) (l0 : Nat) (l1 : Int32) (h : zH) (r : Int32 × zH) (e : fM_nextLyndon N l0 l1 h = some r) : zt xs (5) 237 0 [(0, .ref l0), (1, .int l1)] [] h 0 0 (zQ cI r) := by
  have hy := mfM_nextLyndon
  unfold fM_nextLyndon at e
  replace e := (cond_some e).2
  exact zl hy 2 (pc2 := 2) (lv2 := [(0, .ref l0), (1, .int l1)]) (st2 := [.int (Int32.ofInt 1), .int l1]) rfl <| zx_bip hy (c := 120) rfl (by decide) <| zx_call hy (as := [.int l1, .int (Int32.ofInt 1), .int (Int32.ofInt 120)]) (rest := []) (ov := (fun v => some (.int v))) (fun _ => rfl) rfl rfl (Or.inr (Or.inl rfl)) rfl rfl (Nat.le_of_ble_eq_true rfl) (Nat.le_of_ble_eq_true rfl) (fun _ _ hz => absurd rfl hz) (fun _ e => zt_deep (Nat.le_of_ble_eq_true rfl) (sfM_in N l1 (Int32.ofInt 1) (Int32.ofInt 120) h _ e)) e fun x1 h2 _ e => zx_c0 hy rfl e (fun _ e => zl hy 1 (pc2 := 15) (lv2 := [(0, .ref l0), (1, .int l1)]) (st2 := [.int (Int32.ofInt 0)]) rfl <| zt_sub (z_fc rfl (z_fc rfl (z_fn))) <| sfM_nextLyndon_15 N   l0 l1 (Int32.ofInt 0) h2 _ e) (fun _ e => zl hy 2 (pc2 := 15) (lv2 := [(0, .ref l0), (1, .int l1)]) (st2 := [.int (Int32.ofInt 1)]) rfl <| zt_sub (z_fc rfl (z_fc rfl (z_fn))) <| sfM_nextLyndon_15 N   l0 l1 (Int32.ofInt 1) h2 _ e)
theorem rfM_nextLyndon (N : Nat) (l0 : Nat) (l1 : Int32) (h : zH) (r : Int32 × zH) (e : fM_nextLyndon N l0 l1 h = some r) : fT h l0 5 = true := by
  unfold fM_nextLyndon at e
  exact (cond_some e).1
/-- LyndonBenchModel.keepFactor(I)I -/
theorem mfM_keepFactor : z_me 238 zc_238 3 [] (some .int) := ⟨z_me0 rfl, rfl, rfl, rfl⟩
def fM_keepFactor_39 (N : Nat)  (l0 : Nat) (l1 : Int32) (s0 : Int32) (s1 : Int32) (s2 : Nat) (h : zH) : Option (Int32 × zH) := b2 (fM_throwsOne2 N s2 s1 s0 h) fun x5 h6 => cond (z_cmp .eq x5 (Int32.ofInt 0)) (b2 (fM_begins N l0 h6) fun _ h8 => b2 (fM_keepsFactor N l0 l1 h8) fun x9 h10 => b2 (fM_remember N l0 x9 h10) fun x11 h12 => some (x11, h12)) (some ((Int32.ofInt 0), h6))
theorem sfM_keepFactor_39 {xs : List Int32} (N : Nat)   (l0 : Nat) (l1 : Int32) (s0 : Int32) (s1 : Int32) (s2 : Nat) (h : zH) (r : Int32 × zH) (e : fM_keepFactor_39 N  l0 l1 s0 s1 s2 h = some r) : zt xs (5) 238 39 [(0, .ref l0), (1, .int l1)] [.int s0, .int s1, .ref s2] h 0 0 (zQ cI r) := by
  have hy := mfM_keepFactor
  unfold fM_keepFactor_39 at e
  exact zx_call hy (as := [.ref s2, .int s1, .int s0]) (rest := []) (ov := (fun v => some (.int v))) (fun _ => rfl) rfl rfl (Or.inl rfl) rfl rfl (Nat.le_of_ble_eq_true rfl) (Nat.le_of_ble_eq_true rfl) (fun _ e _ => z_rcvT (rfM_throwsOne2 N s2 s1 s0 h _ e)) (fun _ e => zt_deep (Nat.le_of_ble_eq_true rfl) (sfM_throwsOne2 N s2 s1 s0 h _ e)) e fun x5 h6 _ e => zx_c0 hy rfl e (fun _ e => zl hy 1 (pc2 := 48) (lv2 := [(0, .ref l0), (1, .int l1)]) (st2 := [.ref l0]) rfl <| zx_call hy (as := [.ref l0]) (rest := []) (ov := (fun _ => none)) (fun _ => rfl) rfl rfl (Or.inl rfl) rfl rfl (Nat.le_of_ble_eq_true rfl) (Nat.le_of_ble_eq_true rfl) (fun _ e _ => z_rcvT (rfM_begins N l0 h6 _ e)) (fun _ e => zt_deep (Nat.le_of_ble_eq_true rfl) (sfM_begins N l0 h6 _ e)) e fun _ h8 _ e => zl hy 3 (pc2 := 54) (lv2 := [(0, .ref l0), (1, .int l1)]) (st2 := [.int l1, .ref l0, .ref l0]) rfl <| zx_call hy (as := [.ref l0, .int l1]) (rest := [.ref l0]) (ov := (fun v => some (.int v))) (fun _ => rfl) rfl rfl (Or.inl rfl) rfl rfl (Nat.le_of_ble_eq_true rfl) (Nat.le_of_ble_eq_true rfl) (fun _ e _ => z_rcvT (rfM_keepsFactor N l0 l1 h8 _ e)) (fun _ e => zt_deep (Nat.le_of_ble_eq_true rfl) (sfM_keepsFactor N l0 l1 h8 _ e)) e fun x9 h10 _ e => zx_call hy (as := [.ref l0, .int x9]) (rest := []) (ov := (fun v => some (.int v))) (fun _ => rfl) rfl rfl (Or.inl rfl) rfl rfl (Nat.le_of_ble_eq_true rfl) (Nat.le_of_ble_eq_true rfl) (fun _ e _ => z_rcvT (rfM_remember N l0 x9 h10 _ e)) (fun _ e => zt_deep (Nat.le_of_ble_eq_true rfl) (sfM_remember N l0 x9 h10 _ e)) e fun x11 h12 _ e => zx_ret hy rfl rfl rfl rfl e) (fun _ e => zl hy 1 (pc2 := 46) (lv2 := [(0, .ref l0), (1, .int l1)]) (st2 := [.int (Int32.ofInt 0)]) rfl <| zx_ret hy rfl rfl rfl rfl e)
def fM_keepFactor_38 (N : Nat)  (l0 : Nat) (l1 : Int32) (s0 : Int32) (s1 : Nat) (h : zH) : Option (Int32 × zH) := fM_keepFactor_39 N  l0 l1 (Int32.ofInt 0) s0 s1 h
theorem sfM_keepFactor_38 {xs : List Int32} (N : Nat)   (l0 : Nat) (l1 : Int32) (s0 : Int32) (s1 : Nat) (h : zH) (r : Int32 × zH) (e : fM_keepFactor_38 N  l0 l1 s0 s1 h = some r) : zt xs (5) 238 38 [(0, .ref l0), (1, .int l1)] [.int s0, .ref s1] h 0 0 (zQ cI r) := by
  have hy := mfM_keepFactor
  unfold fM_keepFactor_38 at e
  exact zl hy 1 (pc2 := 39) (lv2 := [(0, .ref l0), (1, .int l1)]) (st2 := [.int (Int32.ofInt 0), .int s0, .ref s1]) rfl <| zt_sub (z_fc rfl (z_fc rfl (z_fn))) <| sfM_keepFactor_39 N   l0 l1 (Int32.ofInt 0) s0 s1 h _ e
def fM_keepFactor_22 (N : Nat)  (l0 : Nat) (l1 : Int32) (l2 : Int32) (s0 : Int32) (s1 : Nat) (h : zH) : Option (Int32 × zH) := cond (z_cmp .eq l2 (Int32.ofInt 0)) (fM_keepFactor_38 N  l0 l1 s0 s1 h) (b2 (fM_canKeepFactor N l0 l1 h) fun x5 h6 => cond (z_cmp .ne x5 (Int32.ofInt 0)) (fM_keepFactor_38 N  l0 l1 s0 s1 h6) (fM_keepFactor_39 N  l0 l1 (Int32.ofInt 1) s0 s1 h6))
theorem sfM_keepFactor_22 {xs : List Int32} (N : Nat)   (l0 : Nat) (l1 : Int32) (l2 : Int32) (s0 : Int32) (s1 : Nat) (h : zH) (r : Int32 × zH) (e : fM_keepFactor_22 N  l0 l1 l2 s0 s1 h = some r) : zt xs (5) 238 22 [(0, .ref l0), (1, .int l1), (2, .int l2)] [.int s0, .ref s1] h 0 0 (zQ cI r) := by
  have hy := mfM_keepFactor
  unfold fM_keepFactor_22 at e
  exact zl hy 1 (pc2 := 23) (lv2 := [(0, .ref l0), (1, .int l1), (2, .int l2)]) (st2 := [.int l2, .int s0, .ref s1]) rfl <| zx_c0 hy rfl e (fun _ e => zt_sub (z_fc rfl (z_fc rfl (z_fn))) <| sfM_keepFactor_38 N   l0 l1 s0 s1 h _ e) (fun _ e => zl hy 2 (pc2 := 28) (lv2 := [(0, .ref l0), (1, .int l1), (2, .int l2)]) (st2 := [.int l1, .ref l0, .int s0, .ref s1]) rfl <| zx_call hy (as := [.ref l0, .int l1]) (rest := [.int s0, .ref s1]) (ov := (fun v => some (.int v))) (fun _ => rfl) rfl rfl (Or.inl rfl) rfl rfl (Nat.le_of_ble_eq_true rfl) (Nat.le_of_ble_eq_true rfl) (fun _ e _ => z_rcvT (rfM_canKeepFactor N l0 l1 h _ e)) (fun _ e => zt_deep (Nat.le_of_ble_eq_true rfl) (sfM_canKeepFactor N l0 l1 h _ e)) e fun x5 h6 _ e => zx_c0 hy rfl e (fun _ e => zt_sub (z_fc rfl (z_fc rfl (z_fn))) <| sfM_keepFactor_38 N   l0 l1 s0 s1 h6 _ e) (fun _ e => zl hy 2 (pc2 := 39) (lv2 := [(0, .ref l0), (1, .int l1), (2, .int l2)]) (st2 := [.int (Int32.ofInt 1), .int s0, .ref s1]) rfl <| zt_sub (z_fc rfl (z_fc rfl (z_fn))) <| sfM_keepFactor_39 N   l0 l1 (Int32.ofInt 1) s0 s1 h6 _ e))
def fM_keepFactor (N : Nat) (l0 : Nat) (l1 : Int32) (h : zH) : Option (Int32 × zH) := cond (fT h l0 5) (b2 (fM_factors N l0 h) fun x1 h2 => b2 (fM_in N l1 (Int32.ofInt 0) (x1 - (Int32.ofInt 1)) h2) fun x3 h4 => cond (z_cmp .ne x3 (Int32.ofInt 0)) (fM_keepFactor_22 N  l0 l1 x3 (Int32.ofInt 0) l0 h4) (fM_keepFactor_22 N  l0 l1 x3 (Int32.ofInt 1) l0 h4)) none
theorem sfM_keepFactor {xs : List Int32} (N : Nat) (l0 : Nat) (l1 : Int32) (h : zH) (r : Int32 × zH) (e : fM_keepFactor N l0 l1 h = some r) : zt xs (5) 238 0 [(0, .ref l0), (1, .int l1)] [] h 0 0 (zQ cI r) := by
  have hy := mfM_keepFactor
  unfold fM_keepFactor at e
  replace e := (cond_some e).2
  exact zl hy 3 (pc2 := 3) (lv2 := [(0, .ref l0), (1, .int l1)]) (st2 := [.ref l0, .int (Int32.ofInt 0), .int l1]) rfl <| zx_call hy (as := [.ref l0]) (rest := [.int (Int32.ofInt 0), .int l1]) (ov := (fun v => some (.int v))) (fun _ => rfl) rfl rfl (Or.inl rfl) rfl rfl (Nat.le_of_ble_eq_true rfl) (Nat.le_of_ble_eq_true rfl) (fun _ e _ => z_rcvT (rfM_factors N l0 h _ e)) (fun _ e => zt_deep (Nat.le_of_ble_eq_true rfl) (sfM_factors N l0 h _ e)) e fun x1 h2 _ e => zl hy 2 (pc2 := 8) (lv2 := [(0, .ref l0), (1, .int l1)]) (st2 := [.int (x1 - (Int32.ofInt 1)), .int (Int32.ofInt 0), .int l1]) rfl <| zx_call hy (as := [.int l1, .int (Int32.ofInt 0), .int (x1 - (Int32.ofInt 1))]) (rest := []) (ov := (fun v => some (.int v))) (fun _ => rfl) rfl rfl (Or.inr (Or.inl rfl)) rfl rfl (Nat.le_of_ble_eq_true rfl) (Nat.le_of_ble_eq_true rfl) (fun _ _ hz => absurd rfl hz) (fun _ e => zt_deep (Nat.le_of_ble_eq_true rfl) (sfM_in N l1 (Int32.ofInt 0) (x1 - (Int32.ofInt 1)) h2 _ e)) e fun x3 h4 _ e => zl hy 3 (pc2 := 14) (lv2 := [(2, .int x3), (0, .ref l0), (1, .int l1)]) (st2 := [.int x3, .ref l0]) rfl <| zx_c0 hy rfl e (fun _ e => zl hy 1 (pc2 := 22) (lv2 := [(2, .int x3), (0, .ref l0), (1, .int l1)]) (st2 := [.int (Int32.ofInt 0), .ref l0]) rfl <| zt_sub (z_fc rfl (z_fc rfl (z_fc rfl (z_fn)))) <| sfM_keepFactor_22 N   l0 l1 x3 (Int32.ofInt 0) l0 h4 _ e) (fun _ e => zl hy 2 (pc2 := 22) (lv2 := [(2, .int x3), (0, .ref l0), (1, .int l1)]) (st2 := [.int (Int32.ofInt 1), .ref l0]) rfl <| zt_sub (z_fc rfl (z_fc rfl (z_fc rfl (z_fn)))) <| sfM_keepFactor_22 N   l0 l1 x3 (Int32.ofInt 1) l0 h4 _ e)
theorem rfM_keepFactor (N : Nat) (l0 : Nat) (l1 : Int32) (h : zH) (r : Int32 × zH) (e : fM_keepFactor N l0 l1 h = some r) : fT h l0 5 = true := by
  unfold fM_keepFactor at e
  exact (cond_some e).1
/-- LyndonBenchModel.keepText()I -/
theorem mfM_keepText : z_me 239 zc_239 1 [] (some .int) := ⟨z_me0 rfl, rfl, rfl, rfl⟩
def fM_keepText_13 (N : Nat)  (l0 : Nat) (s0 : Int32) (s1 : Nat) (h : zH) : Option (Int32 × zH) := b2 (fM_throwsOne N s1 s0 h) fun x3 h4 => cond (z_cmp .eq x3 (Int32.ofInt 0)) (b2 (fM_begins N l0 h4) fun _ h6 => b1 (fR h6 l0 5 0) fun x7 => b1 (fAI h6 x7 100 (Int32.ofInt 1)) fun x8 => b2 (fM_shelves N l0 (Int32.ofInt 0) x8 h6) fun x9 h10 => b2 (fM_remember N l0 x9 h10) fun x11 h12 => some (x11, h12)) (some ((Int32.ofInt 0), h4))
theorem sfM_keepText_13 {xs : List Int32} (N : Nat)   (l0 : Nat) (s0 : Int32) (s1 : Nat) (h : zH) (r : Int32 × zH) (e : fM_keepText_13 N  l0 s0 s1 h = some r) : zt xs (3) 239 13 [(0, .ref l0)] [.int s0, .ref s1] h 0 0 (zQ cI r) := by
  have hy := mfM_keepText
  unfold fM_keepText_13 at e
  exact zx_call hy (as := [.ref s1, .int s0]) (rest := []) (ov := (fun v => some (.int v))) (fun _ => rfl) rfl rfl (Or.inl rfl) rfl rfl (Nat.le_of_ble_eq_true rfl) (Nat.le_of_ble_eq_true rfl) (fun _ e _ => z_rcvT (rfM_throwsOne N s1 s0 h _ e)) (fun _ e => zt_deep (Nat.le_of_ble_eq_true rfl) (sfM_throwsOne N s1 s0 h _ e)) e fun x3 h4 _ e => zx_c0 hy rfl e (fun _ e => zl hy 1 (pc2 := 22) (lv2 := [(0, .ref l0)]) (st2 := [.ref l0]) rfl <| zx_call hy (as := [.ref l0]) (rest := []) (ov := (fun _ => none)) (fun _ => rfl) rfl rfl (Or.inl rfl) rfl rfl (Nat.le_of_ble_eq_true rfl) (Nat.le_of_ble_eq_true rfl) (fun _ e _ => z_rcvT (rfM_begins N l0 h4 _ e)) (fun _ e => zt_deep (Nat.le_of_ble_eq_true rfl) (sfM_begins N l0 h4 _ e)) e fun _ h6 _ e => zl hy 4 (pc2 := 29) (lv2 := [(0, .ref l0)]) (st2 := [.ref l0, .int (Int32.ofInt 0), .ref l0, .ref l0]) rfl <| zx_gR hy rfl e fun x7 _ e => zl hy 1 (pc2 := 33) (lv2 := [(0, .ref l0)]) (st2 := [.int (Int32.ofInt 1), .ref x7, .int (Int32.ofInt 0), .ref l0, .ref l0]) rfl <| zx_aI hy (j := .iaload) (Or.inl ⟨rfl, rfl⟩) rfl e fun x8 _ e => zx_call hy (as := [.ref l0, .int (Int32.ofInt 0), .int x8]) (rest := [.ref l0]) (ov := (fun v => some (.int v))) (fun _ => rfl) rfl rfl (Or.inl rfl) rfl rfl (Nat.le_of_ble_eq_true rfl) (Nat.le_of_ble_eq_true rfl) (fun _ e _ => z_rcvT (rfM_shelves N l0 (Int32.ofInt 0) x8 h6 _ e)) (fun _ e => zt_deep (Nat.le_of_ble_eq_true rfl) (sfM_shelves N l0 (Int32.ofInt 0) x8 h6 _ e)) e fun x9 h10 _ e => zx_call hy (as := [.ref l0, .int x9]) (rest := []) (ov := (fun v => some (.int v))) (fun _ => rfl) rfl rfl (Or.inl rfl) rfl rfl (Nat.le_of_ble_eq_true rfl) (Nat.le_of_ble_eq_true rfl) (fun _ e _ => z_rcvT (rfM_remember N l0 x9 h10 _ e)) (fun _ e => zt_deep (Nat.le_of_ble_eq_true rfl) (sfM_remember N l0 x9 h10 _ e)) e fun x11 h12 _ e => zx_ret hy rfl rfl rfl rfl e) (fun _ e => zl hy 1 (pc2 := 20) (lv2 := [(0, .ref l0)]) (st2 := [.int (Int32.ofInt 0)]) rfl <| zx_ret hy rfl rfl rfl rfl e)
def fM_keepText (N : Nat) (l0 : Nat) (h : zH) : Option (Int32 × zH) := cond (fT h l0 5) (b2 (fM_canKeepText N l0 h) fun x1 h2 => cond (z_cmp .ne x1 (Int32.ofInt 0)) (fM_keepText_13 N  l0 (Int32.ofInt 0) l0 h2) (fM_keepText_13 N  l0 (Int32.ofInt 1) l0 h2)) none
theorem sfM_keepText {xs : List Int32} (N : Nat) (l0 : Nat) (h : zH) (r : Int32 × zH) (e : fM_keepText N l0 h = some r) : zt xs (3) 239 0 [(0, .ref l0)] [] h 0 0 (zQ cI r) := by
  have hy := mfM_keepText
  unfold fM_keepText at e
  replace e := (cond_some e).2
  exact zl hy 2 (pc2 := 2) (lv2 := [(0, .ref l0)]) (st2 := [.ref l0, .ref l0]) rfl <| zx_call hy (as := [.ref l0]) (rest := [.ref l0]) (ov := (fun v => some (.int v))) (fun _ => rfl) rfl rfl (Or.inl rfl) rfl rfl (Nat.le_of_ble_eq_true rfl) (Nat.le_of_ble_eq_true rfl) (fun _ e _ => z_rcvT (rfM_canKeepText N l0 h _ e)) (fun _ e => zt_deep (Nat.le_of_ble_eq_true rfl) (sfM_canKeepText N l0 h _ e)) e fun x1 h2 _ e => zx_c0 hy rfl e (fun _ e => zl hy 1 (pc2 := 13) (lv2 := [(0, .ref l0)]) (st2 := [.int (Int32.ofInt 0), .ref l0]) rfl <| zt_sub (z_fc rfl (z_fn)) <| sfM_keepText_13 N   l0 (Int32.ofInt 0) l0 h2 _ e) (fun _ e => zl hy 2 (pc2 := 13) (lv2 := [(0, .ref l0)]) (st2 := [.int (Int32.ofInt 1), .ref l0]) rfl <| zt_sub (z_fc rfl (z_fn)) <| sfM_keepText_13 N   l0 (Int32.ofInt 1) l0 h2 _ e)
theorem rfM_keepText (N : Nat) (l0 : Nat) (h : zH) (r : Int32 × zH) (e : fM_keepText N l0 h = some r) : fT h l0 5 = true := by
  unfold fM_keepText at e
  exact (cond_some e).1
/-- LyndonBenchModel.removeKept(I)I -/
theorem mfM_removeKept : z_me 240 zc_240 2 [] (some .int) := ⟨z_me0 rfl, rfl, rfl, rfl⟩
def fM_removeKept_14 (N : Nat)  (l0 : Nat) (l1 : Int32) (s0 : Int32) (s1 : Nat) (h : zH) : Option (Int32 × zH) := b2 (fM_throwsOne N s1 s0 h) fun x3 h4 => cond (z_cmp .eq x3 (Int32.ofInt 0)) (b2 (fM_begins N l0 h4) fun _ h6 => b2 (fM_removes N l0 l1 h6) fun x7 h8 => b2 (fM_remember N l0 x7 h8) fun x9 h10 => some (x9, h10)) (some ((Int32.ofInt 0), h4))
theorem sfM_removeKept_14 {xs : List Int32} (N : Nat)   (l0 : Nat) (l1 : Int32) (s0 : Int32) (s1 : Nat) (h : zH) (r : Int32 × zH) (e : fM_removeKept_14 N  l0 l1 s0 s1 h = some r) : zt xs (3) 240 14 [(0, .ref l0), (1, .int l1)] [.int s0, .ref s1] h 0 0 (zQ cI r) := by
  have hy := mfM_removeKept
  unfold fM_removeKept_14 at e
  exact zx_call hy (as := [.ref s1, .int s0]) (rest := []) (ov := (fun v => some (.int v))) (fun _ => rfl) rfl rfl (Or.inl rfl) rfl rfl (Nat.le_of_ble_eq_true rfl) (Nat.le_of_ble_eq_true rfl) (fun _ e _ => z_rcvT (rfM_throwsOne N s1 s0 h _ e)) (fun _ e => zt_deep (Nat.le_of_ble_eq_true rfl) (sfM_throwsOne N s1 s0 h _ e)) e fun x3 h4 _ e => zx_c0 hy rfl e (fun _ e => zl hy 1 (pc2 := 23) (lv2 := [(0, .ref l0), (1, .int l1)]) (st2 := [.ref l0]) rfl <| zx_call hy (as := [.ref l0]) (rest := []) (ov := (fun _ => none)) (fun _ => rfl) rfl rfl (Or.inl rfl) rfl rfl (Nat.le_of_ble_eq_true rfl) (Nat.le_of_ble_eq_true rfl) (fun _ e _ => z_rcvT (rfM_begins N l0 h4 _ e)) (fun _ e => zt_deep (Nat.le_of_ble_eq_true rfl) (sfM_begins N l0 h4 _ e)) e fun _ h6 _ e => zl hy 3 (pc2 := 29) (lv2 := [(0, .ref l0), (1, .int l1)]) (st2 := [.int l1, .ref l0, .ref l0]) rfl <| zx_call hy (as := [.ref l0, .int l1]) (rest := [.ref l0]) (ov := (fun v => some (.int v))) (fun _ => rfl) rfl rfl (Or.inl rfl) rfl rfl (Nat.le_of_ble_eq_true rfl) (Nat.le_of_ble_eq_true rfl) (fun _ e _ => z_rcvT (rfM_removes N l0 l1 h6 _ e)) (fun _ e => zt_deep (Nat.le_of_ble_eq_true rfl) (sfM_removes N l0 l1 h6 _ e)) e fun x7 h8 _ e => zx_call hy (as := [.ref l0, .int x7]) (rest := []) (ov := (fun v => some (.int v))) (fun _ => rfl) rfl rfl (Or.inl rfl) rfl rfl (Nat.le_of_ble_eq_true rfl) (Nat.le_of_ble_eq_true rfl) (fun _ e _ => z_rcvT (rfM_remember N l0 x7 h8 _ e)) (fun _ e => zt_deep (Nat.le_of_ble_eq_true rfl) (sfM_remember N l0 x7 h8 _ e)) e fun x9 h10 _ e => zx_ret hy rfl rfl rfl rfl e) (fun _ e => zl hy 1 (pc2 := 21) (lv2 := [(0, .ref l0), (1, .int l1)]) (st2 := [.int (Int32.ofInt 0)]) rfl <| zx_ret hy rfl rfl rfl rfl e)
def fM_removeKept (N : Nat) (l0 : Nat) (l1 : Int32) (h : zH) : Option (Int32 × zH) := cond (fT h l0 5) (b2 (fM_isShelved N l0 l1 h) fun x1 h2 => cond (z_cmp .ne x1 (Int32.ofInt 0)) (fM_removeKept_14 N  l0 l1 (Int32.ofInt 0) l0 h2) (fM_removeKept_14 N  l0 l1 (Int32.ofInt 1) l0 h2)) none
theorem sfM_removeKept {xs : List Int32} (N : Nat) (l0 : Nat) (l1 : Int32) (h : zH) (r : Int32 × zH) (e : fM_removeKept N l0 l1 h = some r) : zt xs (3) 240 0 [(0, .ref l0), (1, .int l1)] [] h 0 0 (zQ cI r) := by
  have hy := mfM_removeKept
  unfold fM_removeKept at e
  replace e := (cond_some e).2
  exact zl hy 3 (pc2 := 3) (lv2 := [(0, .ref l0), (1, .int l1)]) (st2 := [.int l1, .ref l0, .ref l0]) rfl <| zx_call hy (as := [.ref l0, .int l1]) (rest := [.ref l0]) (ov := (fun v => some (.int v))) (fun _ => rfl) rfl rfl (Or.inl rfl) rfl rfl (Nat.le_of_ble_eq_true rfl) (Nat.le_of_ble_eq_true rfl) (fun _ e _ => z_rcvT (rfM_isShelved N l0 l1 h _ e)) (fun _ e => zt_deep (Nat.le_of_ble_eq_true rfl) (sfM_isShelved N l0 l1 h _ e)) e fun x1 h2 _ e => zx_c0 hy rfl e (fun _ e => zl hy 1 (pc2 := 14) (lv2 := [(0, .ref l0), (1, .int l1)]) (st2 := [.int (Int32.ofInt 0), .ref l0]) rfl <| zt_sub (z_fc rfl (z_fc rfl (z_fn))) <| sfM_removeKept_14 N   l0 l1 (Int32.ofInt 0) l0 h2 _ e) (fun _ e => zl hy 2 (pc2 := 14) (lv2 := [(0, .ref l0), (1, .int l1)]) (st2 := [.int (Int32.ofInt 1), .ref l0]) rfl <| zt_sub (z_fc rfl (z_fc rfl (z_fn))) <| sfM_removeKept_14 N   l0 l1 (Int32.ofInt 1) l0 h2 _ e)
theorem rfM_removeKept (N : Nat) (l0 : Nat) (l1 : Int32) (h : zH) (r : Int32 × zH) (e : fM_removeKept N l0 l1 h = some r) : fT h l0 5 = true := by
  unfold fM_removeKept at e
  exact (cond_some e).1
/-- LyndonBenchModel.joinKept()I -/
theorem mfM_joinKept : z_me 241 zc_241 1 [] (some .int) := ⟨z_me0 rfl, rfl, rfl, rfl⟩
def fM_joinKept_13 (N : Nat)  (l0 : Nat) (s0 : Int32) (s1 : Nat) (h : zH) : Option (Int32 × zH) := b2 (fM_throwsOne N s1 s0 h) fun x3 h4 => cond (z_cmp .eq x3 (Int32.ofInt 0)) (b2 (fM_begins N l0 h4) fun _ h6 => b2 (fM_joins N l0 h6) fun x7 h8 => b2 (fM_remember N l0 x7 h8) fun x9 h10 => some (x9, h10)) (some ((Int32.ofInt 0), h4))
theorem sfM_joinKept_13 {xs : List Int32} (N : Nat)   (l0 : Nat) (s0 : Int32) (s1 : Nat) (h : zH) (r : Int32 × zH) (e : fM_joinKept_13 N  l0 s0 s1 h = some r) : zt xs (5) 241 13 [(0, .ref l0)] [.int s0, .ref s1] h 0 0 (zQ cI r) := by
  have hy := mfM_joinKept
  unfold fM_joinKept_13 at e
  exact zx_call hy (as := [.ref s1, .int s0]) (rest := []) (ov := (fun v => some (.int v))) (fun _ => rfl) rfl rfl (Or.inl rfl) rfl rfl (Nat.le_of_ble_eq_true rfl) (Nat.le_of_ble_eq_true rfl) (fun _ e _ => z_rcvT (rfM_throwsOne N s1 s0 h _ e)) (fun _ e => zt_deep (Nat.le_of_ble_eq_true rfl) (sfM_throwsOne N s1 s0 h _ e)) e fun x3 h4 _ e => zx_c0 hy rfl e (fun _ e => zl hy 1 (pc2 := 22) (lv2 := [(0, .ref l0)]) (st2 := [.ref l0]) rfl <| zx_call hy (as := [.ref l0]) (rest := []) (ov := (fun _ => none)) (fun _ => rfl) rfl rfl (Or.inl rfl) rfl rfl (Nat.le_of_ble_eq_true rfl) (Nat.le_of_ble_eq_true rfl) (fun _ e _ => z_rcvT (rfM_begins N l0 h4 _ e)) (fun _ e => zt_deep (Nat.le_of_ble_eq_true rfl) (sfM_begins N l0 h4 _ e)) e fun _ h6 _ e => zl hy 2 (pc2 := 27) (lv2 := [(0, .ref l0)]) (st2 := [.ref l0, .ref l0]) rfl <| zx_call hy (as := [.ref l0]) (rest := [.ref l0]) (ov := (fun v => some (.int v))) (fun _ => rfl) rfl rfl (Or.inl rfl) rfl rfl (Nat.le_of_ble_eq_true rfl) (Nat.le_of_ble_eq_true rfl) (fun _ e _ => z_rcvT (rfM_joins N l0 h6 _ e)) (fun _ e => zt_deep (Nat.le_of_ble_eq_true rfl) (sfM_joins N l0 h6 _ e)) e fun x7 h8 _ e => zx_call hy (as := [.ref l0, .int x7]) (rest := []) (ov := (fun v => some (.int v))) (fun _ => rfl) rfl rfl (Or.inl rfl) rfl rfl (Nat.le_of_ble_eq_true rfl) (Nat.le_of_ble_eq_true rfl) (fun _ e _ => z_rcvT (rfM_remember N l0 x7 h8 _ e)) (fun _ e => zt_deep (Nat.le_of_ble_eq_true rfl) (sfM_remember N l0 x7 h8 _ e)) e fun x9 h10 _ e => zx_ret hy rfl rfl rfl rfl e) (fun _ e => zl hy 1 (pc2 := 20) (lv2 := [(0, .ref l0)]) (st2 := [.int (Int32.ofInt 0)]) rfl <| zx_ret hy rfl rfl rfl rfl e)
def fM_joinKept (N : Nat) (l0 : Nat) (h : zH) : Option (Int32 × zH) := cond (fT h l0 5) (b2 (fM_canJoin N l0 h) fun x1 h2 => cond (z_cmp .ne x1 (Int32.ofInt 0)) (fM_joinKept_13 N  l0 (Int32.ofInt 0) l0 h2) (fM_joinKept_13 N  l0 (Int32.ofInt 1) l0 h2)) none
theorem sfM_joinKept {xs : List Int32} (N : Nat) (l0 : Nat) (h : zH) (r : Int32 × zH) (e : fM_joinKept N l0 h = some r) : zt xs (5) 241 0 [(0, .ref l0)] [] h 0 0 (zQ cI r) := by
  have hy := mfM_joinKept
  unfold fM_joinKept at e
  replace e := (cond_some e).2
  exact zl hy 2 (pc2 := 2) (lv2 := [(0, .ref l0)]) (st2 := [.ref l0, .ref l0]) rfl <| zx_call hy (as := [.ref l0]) (rest := [.ref l0]) (ov := (fun v => some (.int v))) (fun _ => rfl) rfl rfl (Or.inl rfl) rfl rfl (Nat.le_of_ble_eq_true rfl) (Nat.le_of_ble_eq_true rfl) (fun _ e _ => z_rcvT (rfM_canJoin N l0 h _ e)) (fun _ e => zt_deep (Nat.le_of_ble_eq_true rfl) (sfM_canJoin N l0 h _ e)) e fun x1 h2 _ e => zx_c0 hy rfl e (fun _ e => zl hy 1 (pc2 := 13) (lv2 := [(0, .ref l0)]) (st2 := [.int (Int32.ofInt 0), .ref l0]) rfl <| zt_sub (z_fc rfl (z_fn)) <| sfM_joinKept_13 N   l0 (Int32.ofInt 0) l0 h2 _ e) (fun _ e => zl hy 2 (pc2 := 13) (lv2 := [(0, .ref l0)]) (st2 := [.int (Int32.ofInt 1), .ref l0]) rfl <| zt_sub (z_fc rfl (z_fn)) <| sfM_joinKept_13 N   l0 (Int32.ofInt 1) l0 h2 _ e)
theorem rfM_joinKept (N : Nat) (l0 : Nat) (h : zH) (r : Int32 × zH) (e : fM_joinKept N l0 h = some r) : fT h l0 5 = true := by
  unfold fM_joinKept at e
  exact (cond_some e).1
/-- LyndonBenchModel.undo()I -/
theorem mfM_undo : z_me 242 zc_242 2 [] (some .int) := ⟨z_me0 rfl, rfl, rfl, rfl⟩
def fM_undo_26 (N : Nat) : Nat → Nat → Int32 → zH → Option (Int32 × zH)
  | 0, _, _, _ => none
  | n + 1, l0, l1, h => cond (z_cmp .ge l1 (Int32.ofInt 451)) (b1 (fI h l0 5 4) fun x5 => some (x5, h)) (b1 (fR h l0 5 0) fun x6 => b1 (fR h l0 5 2) fun x7 => b1 (fI h l0 5 4) fun x8 => b1 (fAI h x7 100 (((Int32.ofInt 451) * x8) + l1)) fun x9 => b1 (fAS h x6 100 l1 (.int x9)) fun h10 => fM_undo_26 N n  l0 (l1 + Int32.ofInt 1) h10)
theorem sfM_undo_26 {xs : List Int32} (N : Nat)   : ∀ (n : Nat) (l0 : Nat) (l1 : Int32) (h : zH) (r : Int32 × zH), fM_undo_26 N n  l0 l1 h = some r → zt xs (1) 242 26 [(0, .ref l0), (1, .int l1)] [] h 0 0 (zQ cI r) := by
  have hy := mfM_undo
  intro n
  induction n with
  | zero =>
    intro l0 l1 h r e
    rw [fM_undo_26] at e
    cases e
  | succ n ih =>
    intro l0 l1 h r e
    rw [fM_undo_26] at e
    exact zl hy 1 (pc2 := 27) (lv2 := [(0, .ref l0), (1, .int l1)]) (st2 := [.int l1]) rfl <| zx_sip hy (c := 451) rfl (by decide) <| zx_c hy rfl e (fun _ e => zl hy 1 (pc2 := 61) (lv2 := [(0, .ref l0), (1, .int l1)]) (st2 := [.ref l0]) rfl <| zx_gI hy rfl e fun x5 _ e => zx_ret hy rfl rfl rfl rfl e) (fun _ e => zl hy 1 (pc2 := 34) (lv2 := [(0, .ref l0), (1, .int l1)]) (st2 := [.ref l0]) rfl <| zx_gR hy rfl e fun x6 _ e => zl hy 2 (pc2 := 39) (lv2 := [(0, .ref l0), (1, .int l1)]) (st2 := [.ref l0, .int l1, .ref x6]) rfl <| zx_gR hy rfl e fun x7 _ e => zx_sip hy (c := 451) rfl (by decide) <| zl hy 1 (pc2 := 46) (lv2 := [(0, .ref l0), (1, .int l1)]) (st2 := [.ref l0, .int (Int32.ofInt 451), .ref x7, .int l1, .ref x6]) rfl <| zx_gI hy rfl e fun x8 _ e => zl hy 3 (pc2 := 52) (lv2 := [(0, .ref l0), (1, .int l1)]) (st2 := [.int (((Int32.ofInt 451) * x8) + l1), .ref x7, .int l1, .ref x6]) rfl <| zx_aI hy (j := .iaload) (Or.inl ⟨rfl, rfl⟩) rfl e fun x9 _ e => zx_sI hy (j := .iastore) (Or.inl ⟨rfl, rfl, rfl⟩) rfl e fun h10 _ e => zl hy 2 (pc2 := 26) (lv2 := [(1, .int (l1 + Int32.ofInt 1)), (0, .ref l0)]) (st2 := []) rfl <| zt_sub (z_fc rfl (z_fc rfl (z_fn))) <| ih l0 (l1 + Int32.ofInt 1) h10 _ e)
def fM_undo (N : Nat) (l0 : Nat) (h : zH) : Option (Int32 × zH) := cond (fT h l0 5) (b1 (fS h l0 5 17 (.int (Int32.ofInt 0))) fun h1 => b1 (fI h1 l0 5 4) fun x2 => cond (z_cmp .ne x2 (Int32.ofInt 0)) (b1 (fI h1 l0 5 4) fun x3 => b1 (fS h1 l0 5 4 (.int (x3 - (Int32.ofInt 1)))) fun h4 => fM_undo_26 N N  l0 (Int32.ofInt 0) h4) (some ((Int32.ofInt (-1)), h1))) none
theorem sfM_undo {xs : List Int32} (N : Nat) (l0 : Nat) (h : zH) (r : Int32 × zH) (e : fM_undo N l0 h = some r) : zt xs (1) 242 0 [(0, .ref l0)] [] h 0 0 (zQ cI r) := by
  have hy := mfM_undo
  unfold fM_undo at e
  replace e := (cond_some e).2
  exact zl hy 2 (pc2 := 2) (lv2 := [(0, .ref l0)]) (st2 := [.int (Int32.ofInt 0), .ref l0]) rfl <| zx_pf hy rfl e (rfl) fun h1 _ e => zl hy 1 (pc2 := 6) (lv2 := [(0, .ref l0)]) (st2 := [.ref l0]) rfl <| zx_gI hy rfl e fun x2 _ e => zx_c0 hy rfl e (fun _ e => zl hy 2 (pc2 := 16) (lv2 := [(0, .ref l0)]) (st2 := [.ref l0, .ref l0]) rfl <| zx_gI hy rfl e fun x3 _ e => zl hy 2 (pc2 := 21) (lv2 := [(0, .ref l0)]) (st2 := [.int (x3 - (Int32.ofInt 1)), .ref l0]) rfl <| zx_pf hy rfl e (rfl) fun h4 _ e => zl hy 2 (pc2 := 26) (lv2 := [(1, .int (Int32.ofInt 0)), (0, .ref l0)]) (st2 := []) rfl <| zt_sub (z_fc rfl (z_fc rfl (z_fn))) <| sfM_undo_26 N   N l0 (Int32.ofInt 0) h4 _ e) (fun _ e => zl hy 1 (pc2 := 13) (lv2 := [(0, .ref l0)]) (st2 := [.int (Int32.ofInt (-1))]) rfl <| zx_ret hy rfl rfl rfl rfl e)
theorem rfM_undo (N : Nat) (l0 : Nat) (h : zH) (r : Int32 × zH) (e : fM_undo N l0 h = some r) : fT h l0 5 = true := by
  unfold fM_undo at e
  exact (cond_some e).1
/-- LyndonBenchModel.undoCount()I -/
theorem mfM_undoCount : z_me 243 zc_243 1 [] (some .int) := ⟨z_me0 rfl, rfl, rfl, rfl⟩
def fM_undoCount (N : Nat) (l0 : Nat) (h : zH) : Option (Int32 × zH) := cond (fT h l0 5) (b1 (fS h l0 5 17 (.int (Int32.ofInt 0))) fun h1 => b1 (fI h1 l0 5 4) fun x2 => some (x2, h1)) none
theorem sfM_undoCount {xs : List Int32} (N : Nat) (l0 : Nat) (h : zH) (r : Int32 × zH) (e : fM_undoCount N l0 h = some r) : zt xs (1) 243 0 [(0, .ref l0)] [] h 0 0 (zQ cI r) := by
  have hy := mfM_undoCount
  unfold fM_undoCount at e
  replace e := (cond_some e).2
  exact zl hy 2 (pc2 := 2) (lv2 := [(0, .ref l0)]) (st2 := [.int (Int32.ofInt 0), .ref l0]) rfl <| zx_pf hy rfl e (rfl) fun h1 _ e => zl hy 1 (pc2 := 6) (lv2 := [(0, .ref l0)]) (st2 := [.ref l0]) rfl <| zx_gI hy rfl e fun x2 _ e => zx_ret hy rfl rfl rfl rfl e
theorem rfM_undoCount (N : Nat) (l0 : Nat) (h : zH) (r : Int32 × zH) (e : fM_undoCount N l0 h = some r) : fT h l0 5 = true := by
  unfold fM_undoCount at e
  exact (cond_some e).1
/-- LyndonBenchModel.saveSnapshot()I -/
theorem mfM_saveSnapshot : z_me 244 zc_244 2 [] (some .int) := ⟨z_me0 rfl, rfl, rfl, rfl⟩
def fM_saveSnapshot_12 (N : Nat) : Nat → Nat → Int32 → zH → Option (Int32 × zH)
  | 0, _, _, _ => none
  | n + 1, l0, l1, h => cond (z_cmp .ge l1 (Int32.ofInt 451)) (b1 (fR h l0 5 0) fun x3 => b1 (fAI h x3 100 (Int32.ofInt 1)) fun x4 => some (x4, h)) (b1 (fR h l0 5 3) fun x5 => b1 (fR h l0 5 0) fun x6 => b1 (fAI h x6 100 l1) fun x7 => b1 (fAS h x5 100 l1 (.int x7)) fun h8 => fM_saveSnapshot_12 N n  l0 (l1 + Int32.ofInt 1) h8)
theorem sfM_saveSnapshot_12 {xs : List Int32} (N : Nat)   : ∀ (n : Nat) (l0 : Nat) (l1 : Int32) (h : zH) (r : Int32 × zH), fM_saveSnapshot_12 N n  l0 l1 h = some r → zt xs (1) 244 12 [(0, .ref l0), (1, .int l1)] [] h 0 0 (zQ cI r) := by
  have hy := mfM_saveSnapshot
  intro n
  induction n with
  | zero =>
    intro l0 l1 h r e
    rw [fM_saveSnapshot_12] at e
    cases e
  | succ n ih =>
    intro l0 l1 h r e
    rw [fM_saveSnapshot_12] at e
    exact zl hy 1 (pc2 := 13) (lv2 := [(0, .ref l0), (1, .int l1)]) (st2 := [.int l1]) rfl <| zx_sip hy (c := 451) rfl (by decide) <| zx_c hy rfl e (fun _ e => zl hy 1 (pc2 := 38) (lv2 := [(0, .ref l0), (1, .int l1)]) (st2 := [.ref l0]) rfl <| zx_gR hy rfl e fun x3 _ e => zl hy 1 (pc2 := 42) (lv2 := [(0, .ref l0), (1, .int l1)]) (st2 := [.int (Int32.ofInt 1), .ref x3]) rfl <| zx_aI hy (j := .iaload) (Or.inl ⟨rfl, rfl⟩) rfl e fun x4 _ e => zx_ret hy rfl rfl rfl rfl e) (fun _ e => zl hy 1 (pc2 := 20) (lv2 := [(0, .ref l0), (1, .int l1)]) (st2 := [.ref l0]) rfl <| zx_gR hy rfl e fun x5 _ e => zl hy 2 (pc2 := 25) (lv2 := [(0, .ref l0), (1, .int l1)]) (st2 := [.ref l0, .int l1, .ref x5]) rfl <| zx_gR hy rfl e fun x6 _ e => zl hy 1 (pc2 := 29) (lv2 := [(0, .ref l0), (1, .int l1)]) (st2 := [.int l1, .ref x6, .int l1, .ref x5]) rfl <| zx_aI hy (j := .iaload) (Or.inl ⟨rfl, rfl⟩) rfl e fun x7 _ e => zx_sI hy (j := .iastore) (Or.inl ⟨rfl, rfl, rfl⟩) rfl e fun h8 _ e => zl hy 2 (pc2 := 12) (lv2 := [(1, .int (l1 + Int32.ofInt 1)), (0, .ref l0)]) (st2 := []) rfl <| zt_sub (z_fc rfl (z_fc rfl (z_fn))) <| ih l0 (l1 + Int32.ofInt 1) h8 _ e)
def fM_saveSnapshot (N : Nat) (l0 : Nat) (h : zH) : Option (Int32 × zH) := cond (fT h l0 5) (b1 (fS h l0 5 17 (.int (Int32.ofInt 0))) fun h1 => b1 (fS h1 l0 5 5 (.int (Int32.ofInt 1))) fun h2 => fM_saveSnapshot_12 N N  l0 (Int32.ofInt 0) h2) none
theorem sfM_saveSnapshot {xs : List Int32} (N : Nat) (l0 : Nat) (h : zH) (r : Int32 × zH) (e : fM_saveSnapshot N l0 h = some r) : zt xs (1) 244 0 [(0, .ref l0)] [] h 0 0 (zQ cI r) := by
  have hy := mfM_saveSnapshot
  unfold fM_saveSnapshot at e
  replace e := (cond_some e).2
  exact zl hy 2 (pc2 := 2) (lv2 := [(0, .ref l0)]) (st2 := [.int (Int32.ofInt 0), .ref l0]) rfl <| zx_pf hy rfl e (rfl) fun h1 _ e => zl hy 2 (pc2 := 7) (lv2 := [(0, .ref l0)]) (st2 := [.int (Int32.ofInt 1), .ref l0]) rfl <| zx_pf hy rfl e (by decide) fun h2 _ e => zl hy 2 (pc2 := 12) (lv2 := [(1, .int (Int32.ofInt 0)), (0, .ref l0)]) (st2 := []) rfl <| zt_sub (z_fc rfl (z_fc rfl (z_fn))) <| sfM_saveSnapshot_12 N   N l0 (Int32.ofInt 0) h2 _ e
theorem rfM_saveSnapshot (N : Nat) (l0 : Nat) (h : zH) (r : Int32 × zH) (e : fM_saveSnapshot N l0 h = some r) : fT h l0 5 = true := by
  unfold fM_saveSnapshot at e
  exact (cond_some e).1
/-- LyndonBenchModel.restoreSnapshot()I -/
theorem mfM_restoreSnapshot : z_me 245 zc_245 2 [] (some .int) := ⟨z_me0 rfl, rfl, rfl, rfl⟩
def fM_restoreSnapshot_23 (N : Nat) : Nat → Nat → Int32 → zH → Option (Int32 × zH)
  | 0, _, _, _ => none
  | n + 1, l0, l1, h => cond (z_cmp .ge l1 (Int32.ofInt 451)) (b1 (fS h l0 5 4 (.int (Int32.ofInt 0))) fun h4 => b1 (fR h4 l0 5 0) fun x5 => b1 (fAI h4 x5 100 (Int32.ofInt 1)) fun x6 => some (x6, h4)) (b1 (fR h l0 5 0) fun x7 => b1 (fR h l0 5 3) fun x8 => b1 (fAI h x8 100 l1) fun x9 => b1 (fAS h x7 100 l1 (.int x9)) fun h10 => fM_restoreSnapshot_23 N n  l0 (l1 + Int32.ofInt 1) h10)
theorem sfM_restoreSnapshot_23 {xs : List Int32} (N : Nat)   : ∀ (n : Nat) (l0 : Nat) (l1 : Int32) (h : zH) (r : Int32 × zH), fM_restoreSnapshot_23 N n  l0 l1 h = some r → zt xs (2) 245 23 [(0, .ref l0), (1, .int l1)] [] h 0 0 (zQ cI r) := by
  have hy := mfM_restoreSnapshot
  intro n
  induction n with
  | zero =>
    intro l0 l1 h r e
    rw [fM_restoreSnapshot_23] at e
    cases e
  | succ n ih =>
    intro l0 l1 h r e
    rw [fM_restoreSnapshot_23] at e
    exact zl hy 1 (pc2 := 24) (lv2 := [(0, .ref l0), (1, .int l1)]) (st2 := [.int l1]) rfl <| zx_sip hy (c := 451) rfl (by decide) <| zx_c hy rfl e (fun _ e => zl hy 2 (pc2 := 50) (lv2 := [(0, .ref l0), (1, .int l1)]) (st2 := [.int (Int32.ofInt 0), .ref l0]) rfl <| zx_pf hy rfl e (rfl) fun h4 _ e => zl hy 1 (pc2 := 54) (lv2 := [(0, .ref l0), (1, .int l1)]) (st2 := [.ref l0]) rfl <| zx_gR hy rfl e fun x5 _ e => zl hy 1 (pc2 := 58) (lv2 := [(0, .ref l0), (1, .int l1)]) (st2 := [.int (Int32.ofInt 1), .ref x5]) rfl <| zx_aI hy (j := .iaload) (Or.inl ⟨rfl, rfl⟩) rfl e fun x6 _ e => zx_ret hy rfl rfl rfl rfl e) (fun _ e => zl hy 1 (pc2 := 31) (lv2 := [(0, .ref l0), (1, .int l1)]) (st2 := [.ref l0]) rfl <| zx_gR hy rfl e fun x7 _ e => zl hy 2 (pc2 := 36) (lv2 := [(0, .ref l0), (1, .int l1)]) (st2 := [.ref l0, .int l1, .ref x7]) rfl <| zx_gR hy rfl e fun x8 _ e => zl hy 1 (pc2 := 40) (lv2 := [(0, .ref l0), (1, .int l1)]) (st2 := [.int l1, .ref x8, .int l1, .ref x7]) rfl <| zx_aI hy (j := .iaload) (Or.inl ⟨rfl, rfl⟩) rfl e fun x9 _ e => zx_sI hy (j := .iastore) (Or.inl ⟨rfl, rfl, rfl⟩) rfl e fun h10 _ e => zl hy 2 (pc2 := 23) (lv2 := [(1, .int (l1 + Int32.ofInt 1)), (0, .ref l0)]) (st2 := []) rfl <| zt_sub (z_fc rfl (z_fc rfl (z_fn))) <| ih l0 (l1 + Int32.ofInt 1) h10 _ e)
def fM_restoreSnapshot_13 (N : Nat)  (l0 : Nat) (s0 : Int32) (s1 : Nat) (h : zH) : Option (Int32 × zH) := b2 (fM_throwsOne N s1 s0 h) fun x2 h3 => cond (z_cmp .eq x2 (Int32.ofInt 0)) (fM_restoreSnapshot_23 N N  l0 (Int32.ofInt 0) h3) (some ((Int32.ofInt 0), h3))
theorem sfM_restoreSnapshot_13 {xs : List Int32} (N : Nat)   (l0 : Nat) (s0 : Int32) (s1 : Nat) (h : zH) (r : Int32 × zH) (e : fM_restoreSnapshot_13 N  l0 s0 s1 h = some r) : zt xs (2) 245 13 [(0, .ref l0)] [.int s0, .ref s1] h 0 0 (zQ cI r) := by
  have hy := mfM_restoreSnapshot
  unfold fM_restoreSnapshot_13 at e
  exact zx_call hy (as := [.ref s1, .int s0]) (rest := []) (ov := (fun v => some (.int v))) (fun _ => rfl) rfl rfl (Or.inl rfl) rfl rfl (Nat.le_of_ble_eq_true rfl) (Nat.le_of_ble_eq_true rfl) (fun _ e _ => z_rcvT (rfM_throwsOne N s1 s0 h _ e)) (fun _ e => zt_deep (Nat.le_of_ble_eq_true rfl) (sfM_throwsOne N s1 s0 h _ e)) e fun x2 h3 _ e => zx_c0 hy rfl e (fun _ e => zl hy 2 (pc2 := 23) (lv2 := [(1, .int (Int32.ofInt 0)), (0, .ref l0)]) (st2 := []) rfl <| zt_sub (z_fc rfl (z_fc rfl (z_fn))) <| sfM_restoreSnapshot_23 N   N l0 (Int32.ofInt 0) h3 _ e) (fun _ e => zl hy 1 (pc2 := 20) (lv2 := [(0, .ref l0)]) (st2 := [.int (Int32.ofInt 0)]) rfl <| zx_ret hy rfl rfl rfl rfl e)
def fM_restoreSnapshot (N : Nat) (l0 : Nat) (h : zH) : Option (Int32 × zH) := cond (fT h l0 5) (b1 (fI h l0 5 5) fun x1 => cond (z_cmp .ne x1 (Int32.ofInt 0)) (fM_restoreSnapshot_13 N  l0 (Int32.ofInt 0) l0 h) (fM_restoreSnapshot_13 N  l0 (Int32.ofInt 1) l0 h)) none
theorem sfM_restoreSnapshot {xs : List Int32} (N : Nat) (l0 : Nat) (h : zH) (r : Int32 × zH) (e : fM_restoreSnapshot N l0 h = some r) : zt xs (2) 245 0 [(0, .ref l0)] [] h 0 0 (zQ cI r) := by
  have hy := mfM_restoreSnapshot
  unfold fM_restoreSnapshot at e
  replace e := (cond_some e).2
  exact zl hy 2 (pc2 := 2) (lv2 := [(0, .ref l0)]) (st2 := [.ref l0, .ref l0]) rfl <| zx_gI hy rfl e fun x1 _ e => zx_c0 hy rfl e (fun _ e => zl hy 1 (pc2 := 13) (lv2 := [(0, .ref l0)]) (st2 := [.int (Int32.ofInt 0), .ref l0]) rfl <| zt_sub (z_fc rfl (z_fn)) <| sfM_restoreSnapshot_13 N   l0 (Int32.ofInt 0) l0 h _ e) (fun _ e => zl hy 2 (pc2 := 13) (lv2 := [(0, .ref l0)]) (st2 := [.int (Int32.ofInt 1), .ref l0]) rfl <| zt_sub (z_fc rfl (z_fn)) <| sfM_restoreSnapshot_13 N   l0 (Int32.ofInt 1) l0 h _ e)
theorem rfM_restoreSnapshot (N : Nat) (l0 : Nat) (h : zH) (r : Int32 × zH) (e : fM_restoreSnapshot N l0 h = some r) : fT h l0 5 = true := by
  unfold fM_restoreSnapshot at e
  exact (cond_some e).1
/-- LyndonBenchModel.scriptErrorKind()I -/
theorem mfM_scriptErrorKind : z_me 246 zc_246 1 [] (some .int) := ⟨z_me0 rfl, rfl, rfl, rfl⟩
def fM_scriptErrorKind (N : Nat) (l0 : Nat) (h : zH) : Option (Int32 × zH) := cond (fT h l0 5) (b1 (fS h l0 5 17 (.int (Int32.ofInt 0))) fun h1 => b1 (fI h1 l0 5 12) fun x2 => some (x2, h1)) none
theorem sfM_scriptErrorKind {xs : List Int32} (N : Nat) (l0 : Nat) (h : zH) (r : Int32 × zH) (e : fM_scriptErrorKind N l0 h = some r) : zt xs (1) 246 0 [(0, .ref l0)] [] h 0 0 (zQ cI r) := by
  have hy := mfM_scriptErrorKind
  unfold fM_scriptErrorKind at e
  replace e := (cond_some e).2
  exact zl hy 2 (pc2 := 2) (lv2 := [(0, .ref l0)]) (st2 := [.int (Int32.ofInt 0), .ref l0]) rfl <| zx_pf hy rfl e (rfl) fun h1 _ e => zl hy 1 (pc2 := 6) (lv2 := [(0, .ref l0)]) (st2 := [.ref l0]) rfl <| zx_gI hy rfl e fun x2 _ e => zx_ret hy rfl rfl rfl rfl e
theorem rfM_scriptErrorKind (N : Nat) (l0 : Nat) (h : zH) (r : Int32 × zH) (e : fM_scriptErrorKind N l0 h = some r) : fT h l0 5 = true := by
  unfold fM_scriptErrorKind at e
  exact (cond_some e).1
/-- LyndonBenchModel.scriptErrorOffset()I -/
theorem mfM_scriptErrorOffset : z_me 247 zc_247 1 [] (some .int) := ⟨z_me0 rfl, rfl, rfl, rfl⟩
def fM_scriptErrorOffset (N : Nat) (l0 : Nat) (h : zH) : Option (Int32 × zH) := cond (fT h l0 5) (b1 (fS h l0 5 17 (.int (Int32.ofInt 0))) fun h1 => b1 (fI h1 l0 5 13) fun x2 => some (x2, h1)) none
theorem sfM_scriptErrorOffset {xs : List Int32} (N : Nat) (l0 : Nat) (h : zH) (r : Int32 × zH) (e : fM_scriptErrorOffset N l0 h = some r) : zt xs (1) 247 0 [(0, .ref l0)] [] h 0 0 (zQ cI r) := by
  have hy := mfM_scriptErrorOffset
  unfold fM_scriptErrorOffset at e
  replace e := (cond_some e).2
  exact zl hy 2 (pc2 := 2) (lv2 := [(0, .ref l0)]) (st2 := [.int (Int32.ofInt 0), .ref l0]) rfl <| zx_pf hy rfl e (rfl) fun h1 _ e => zl hy 1 (pc2 := 6) (lv2 := [(0, .ref l0)]) (st2 := [.ref l0]) rfl <| zx_gI hy rfl e fun x2 _ e => zx_ret hy rfl rfl rfl rfl e
theorem rfM_scriptErrorOffset (N : Nat) (l0 : Nat) (h : zH) (r : Int32 × zH) (e : fM_scriptErrorOffset N l0 h = some r) : fT h l0 5 = true := by
  unfold fM_scriptErrorOffset at e
  exact (cond_some e).1
/-- LyndonBenchModel.told(I)I -/
theorem mfM_told : z_me 248 zc_248 2 [] (some .int) := ⟨z_me0 rfl, rfl, rfl, rfl⟩
def fM_told (N : Nat) (l0 : Nat) (l1 : Int32) (h : zH) : Option (Int32 × zH) := cond (fT h l0 5) (b1 (fS h l0 5 17 (.int (Int32.ofInt 0))) fun h1 => b1 (fR h1 l0 5 0) fun x2 => b1 (fAI h1 x2 100 l1) fun x3 => some (x3, h1)) none
theorem sfM_told {xs : List Int32} (N : Nat) (l0 : Nat) (l1 : Int32) (h : zH) (r : Int32 × zH) (e : fM_told N l0 l1 h = some r) : zt xs (1) 248 0 [(0, .ref l0), (1, .int l1)] [] h 0 0 (zQ cI r) := by
  have hy := mfM_told
  unfold fM_told at e
  replace e := (cond_some e).2
  exact zl hy 2 (pc2 := 2) (lv2 := [(0, .ref l0), (1, .int l1)]) (st2 := [.int (Int32.ofInt 0), .ref l0]) rfl <| zx_pf hy rfl e (rfl) fun h1 _ e => zl hy 1 (pc2 := 6) (lv2 := [(0, .ref l0), (1, .int l1)]) (st2 := [.ref l0]) rfl <| zx_gR hy rfl e fun x2 _ e => zl hy 1 (pc2 := 10) (lv2 := [(0, .ref l0), (1, .int l1)]) (st2 := [.int l1, .ref x2]) rfl <| zx_aI hy (j := .iaload) (Or.inl ⟨rfl, rfl⟩) rfl e fun x3 _ e => zx_ret hy rfl rfl rfl rfl e
theorem rfM_told (N : Nat) (l0 : Nat) (l1 : Int32) (h : zH) (r : Int32 × zH) (e : fM_told N l0 l1 h = some r) : fT h l0 5 = true := by
  unfold fM_told at e
  exact (cond_some e).1
/-- LyndonBenchModel.letters()I -/
theorem mfM_letters : z_me 249 zc_249 1 [] (some .int) := ⟨z_me0 rfl, rfl, rfl, rfl⟩
def fM_letters (N : Nat) (l0 : Nat) (h : zH) : Option (Int32 × zH) := cond (fT h l0 5) (b2 (fM_told N l0 (Int32.ofInt 0) h) fun x1 h2 => some (x1, h2)) none
theorem sfM_letters {xs : List Int32} (N : Nat) (l0 : Nat) (h : zH) (r : Int32 × zH) (e : fM_letters N l0 h = some r) : zt xs (2) 249 0 [(0, .ref l0)] [] h 0 0 (zQ cI r) := by
  have hy := mfM_letters
  unfold fM_letters at e
  replace e := (cond_some e).2
  exact zl hy 2 (pc2 := 2) (lv2 := [(0, .ref l0)]) (st2 := [.int (Int32.ofInt 0), .ref l0]) rfl <| zx_call hy (as := [.ref l0, .int (Int32.ofInt 0)]) (rest := []) (ov := (fun v => some (.int v))) (fun _ => rfl) rfl rfl (Or.inl rfl) rfl rfl (Nat.le_of_ble_eq_true rfl) (Nat.le_of_ble_eq_true rfl) (fun _ e _ => z_rcvT (rfM_told N l0 (Int32.ofInt 0) h _ e)) (fun _ e => zt_deep (Nat.le_of_ble_eq_true rfl) (sfM_told N l0 (Int32.ofInt 0) h _ e)) e fun x1 h2 _ e => zx_ret hy rfl rfl rfl rfl e
theorem rfM_letters (N : Nat) (l0 : Nat) (h : zH) (r : Int32 × zH) (e : fM_letters N l0 h = some r) : fT h l0 5 = true := by
  unfold fM_letters at e
  exact (cond_some e).1
/-- LyndonBenchModel.length()I -/
theorem mfM_length : z_me 250 zc_250 1 [] (some .int) := ⟨z_me0 rfl, rfl, rfl, rfl⟩
def fM_length (N : Nat) (l0 : Nat) (h : zH) : Option (Int32 × zH) := cond (fT h l0 5) (b2 (fM_told N l0 (Int32.ofInt 1) h) fun x1 h2 => some (x1, h2)) none
theorem sfM_length {xs : List Int32} (N : Nat) (l0 : Nat) (h : zH) (r : Int32 × zH) (e : fM_length N l0 h = some r) : zt xs (2) 250 0 [(0, .ref l0)] [] h 0 0 (zQ cI r) := by
  have hy := mfM_length
  unfold fM_length at e
  replace e := (cond_some e).2
  exact zl hy 2 (pc2 := 2) (lv2 := [(0, .ref l0)]) (st2 := [.int (Int32.ofInt 1), .ref l0]) rfl <| zx_call hy (as := [.ref l0, .int (Int32.ofInt 1)]) (rest := []) (ov := (fun v => some (.int v))) (fun _ => rfl) rfl rfl (Or.inl rfl) rfl rfl (Nat.le_of_ble_eq_true rfl) (Nat.le_of_ble_eq_true rfl) (fun _ e _ => z_rcvT (rfM_told N l0 (Int32.ofInt 1) h _ e)) (fun _ e => zt_deep (Nat.le_of_ble_eq_true rfl) (sfM_told N l0 (Int32.ofInt 1) h _ e)) e fun x1 h2 _ e => zx_ret hy rfl rfl rfl rfl e
theorem rfM_length (N : Nat) (l0 : Nat) (h : zH) (r : Int32 × zH) (e : fM_length N l0 h = some r) : fT h l0 5 = true := by
  unfold fM_length at e
  exact (cond_some e).1
/-- LyndonBenchModel.letterAt(I)I -/
theorem mfM_letterAt : z_me 251 zc_251 2 [] (some .int) := ⟨z_me0 rfl, rfl, rfl, rfl⟩
def fM_letterAt_36 (N : Nat)  (s0 : Int32) (h : zH) : Option (Int32 × zH) := some (s0, h)
theorem sfM_letterAt_36 {xs : List Int32} (N : Nat)   (s0 : Int32) (h : zH) (r : Int32 × zH) (e : fM_letterAt_36 N  s0 h = some r) : zt xs (2) 251 36 [] [.int s0] h 0 0 (zQ cI r) := by
  have hy := mfM_letterAt
  unfold fM_letterAt_36 at e
  exact zx_ret hy rfl rfl rfl rfl e
def fM_letterAt (N : Nat) (l0 : Nat) (l1 : Int32) (h : zH) : Option (Int32 × zH) := cond (fT h l0 5) (b1 (fS h l0 5 17 (.int (Int32.ofInt 0))) fun h1 => b1 (fR h1 l0 5 0) fun x2 => b1 (fAI h1 x2 100 (Int32.ofInt 1)) fun x3 => b2 (fM_in N l1 (Int32.ofInt 0) (x3 - (Int32.ofInt 1)) h1) fun x4 h5 => cond (z_cmp .eq x4 (Int32.ofInt 0)) (fM_letterAt_36 N  (Int32.ofInt (-1)) h5) (b1 (fR h5 l0 5 0) fun x6 => b1 (fAI h5 x6 100 ((Int32.ofInt 3) + l1)) fun x7 => fM_letterAt_36 N  ((Int32.ofInt 97) + x7) h5)) none
theorem sfM_letterAt {xs : List Int32} (N : Nat) (l0 : Nat) (l1 : Int32) (h : zH) (r : Int32 × zH) (e : fM_letterAt N l0 l1 h = some r) : zt xs (2) 251 0 [(0, .ref l0), (1, .int l1)] [] h 0 0 (zQ cI r) := by
  have hy := mfM_letterAt
  unfold fM_letterAt at e
  replace e := (cond_some e).2
  exact zl hy 2 (pc2 := 2) (lv2 := [(0, .ref l0), (1, .int l1)]) (st2 := [.int (Int32.ofInt 0), .ref l0]) rfl <| zx_pf hy rfl e (rfl) fun h1 _ e => zl hy 3 (pc2 := 8) (lv2 := [(0, .ref l0), (1, .int l1)]) (st2 := [.ref l0, .int (Int32.ofInt 0), .int l1]) rfl <| zx_gR hy rfl e fun x2 _ e => zl hy 1 (pc2 := 12) (lv2 := [(0, .ref l0), (1, .int l1)]) (st2 := [.int (Int32.ofInt 1), .ref x2, .int (Int32.ofInt 0), .int l1]) rfl <| zx_aI hy (j := .iaload) (Or.inl ⟨rfl, rfl⟩) rfl e fun x3 _ e => zl hy 2 (pc2 := 15) (lv2 := [(0, .ref l0), (1, .int l1)]) (st2 := [.int (x3 - (Int32.ofInt 1)), .int (Int32.ofInt 0), .int l1]) rfl <| zx_call hy (as := [.int l1, .int (Int32.ofInt 0), .int (x3 - (Int32.ofInt 1))]) (rest := []) (ov := (fun v => some (.int v))) (fun _ => rfl) rfl rfl (Or.inr (Or.inl rfl)) rfl rfl (Nat.le_of_ble_eq_true rfl) (Nat.le_of_ble_eq_true rfl) (fun _ _ hz => absurd rfl hz) (fun _ e => zt_deep (Nat.le_of_ble_eq_true rfl) (sfM_in N l1 (Int32.ofInt 0) (x3 - (Int32.ofInt 1)) h1 _ e)) e fun x4 h5 _ e => zx_c0 hy rfl e (fun _ e => zl hy 1 (pc2 := 36) (lv2 := [(0, .ref l0), (1, .int l1)]) (st2 := [.int (Int32.ofInt (-1))]) rfl <| zt_sub (z_fn) <| sfM_letterAt_36 N   (Int32.ofInt (-1)) h5 _ e) (fun _ e => zx_bip hy (c := 97) rfl (by decide) <| zl hy 1 (pc2 := 24) (lv2 := [(0, .ref l0), (1, .int l1)]) (st2 := [.ref l0, .int (Int32.ofInt 97)]) rfl <| zx_gR hy rfl e fun x6 _ e => zl hy 3 (pc2 := 30) (lv2 := [(0, .ref l0), (1, .int l1)]) (st2 := [.int ((Int32.ofInt 3) + l1), .ref x6, .int (Int32.ofInt 97)]) rfl <| zx_aI hy (j := .iaload) (Or.inl ⟨rfl, rfl⟩) rfl e fun x7 _ e => zl hy 2 (pc2 := 36) (lv2 := [(0, .ref l0), (1, .int l1)]) (st2 := [.int ((Int32.ofInt 97) + x7)]) rfl <| zt_sub (z_fn) <| sfM_letterAt_36 N   ((Int32.ofInt 97) + x7) h5 _ e)
theorem rfM_letterAt (N : Nat) (l0 : Nat) (l1 : Int32) (h : zH) (r : Int32 × zH) (e : fM_letterAt N l0 l1 h = some r) : fT h l0 5 = true := by
  unfold fM_letterAt at e
  exact (cond_some e).1
/-- LyndonBenchModel.isPart(II)Z -/
theorem mfM_isPart : z_me 252 zc_252 3 [] (some .boolean) := ⟨z_me0 rfl, rfl, rfl, rfl⟩
def fM_isPart_24 (N : Nat)  (s0 : Int32) (h : zH) : Option (Int32 × zH) := cond (decide (s0 = Int32.ofInt 0) || decide (s0 = Int32.ofInt 1)) (some (s0, h)) none
theorem sfM_isPart_24 {xs : List Int32} (N : Nat)   (s0 : Int32) (h : zH) (r : Int32 × zH) (e : fM_isPart_24 N  s0 h = some r) : zt xs (1) 252 24 [] [.int s0] h 0 0 (zQ cI r) := by
  have hy := mfM_isPart
  unfold fM_isPart_24 at e
  exact zx_retB hy rfl rfl e
def fM_isPart_23 (N : Nat)   (h : zH) : Option (Int32 × zH) := fM_isPart_24 N  (Int32.ofInt 0) h
theorem sfM_isPart_23 {xs : List Int32} (N : Nat)    (h : zH) (r : Int32 × zH) (e : fM_isPart_23 N   h = some r) : zt xs (1) 252 23 [] [] h 0 0 (zQ cI r) := by
  have hy := mfM_isPart
  unfold fM_isPart_23 at e
  exact zl hy 1 (pc2 := 24) (lv2 := []) (st2 := [.int (Int32.ofInt 0)]) rfl <| zt_sub (z_fn) <| sfM_isPart_24 N   (Int32.ofInt 0) h _ e
def fM_isPart (N : Nat) (l0 : Nat) (l1 : Int32) (l2 : Int32) (h : zH) : Option (Int32 × zH) := cond (fT h l0 5) (cond (z_cmp .lt l1 (Int32.ofInt 0)) (fM_isPart_23 N   h) (cond (z_cmp .lt l2 l1) (fM_isPart_23 N   h) (b1 (fR h l0 5 0) fun x1 => b1 (fAI h x1 100 (Int32.ofInt 1)) fun x2 => cond (z_cmp .gt l2 x2) (fM_isPart_23 N   h) (fM_isPart_24 N  (Int32.ofInt 1) h)))) none
theorem sfM_isPart {xs : List Int32} (N : Nat) (l0 : Nat) (l1 : Int32) (l2 : Int32) (h : zH) (r : Int32 × zH) (e : fM_isPart N l0 l1 l2 h = some r) : zt xs (1) 252 0 [(0, .ref l0), (1, .int l1), (2, .int l2)] [] h 0 0 (zQ cI r) := by
  have hy := mfM_isPart
  unfold fM_isPart at e
  replace e := (cond_some e).2
  exact zl hy 1 (pc2 := 1) (lv2 := [(0, .ref l0), (1, .int l1), (2, .int l2)]) (st2 := [.int l1]) rfl <| zx_c0 hy rfl e (fun _ e => zt_sub (z_fn) <| sfM_isPart_23 N    h _ e) (fun _ e => zl hy 2 (pc2 := 6) (lv2 := [(0, .ref l0), (1, .int l1), (2, .int l2)]) (st2 := [.int l1, .int l2]) rfl <| zx_c hy rfl e (fun _ e => zt_sub (z_fn) <| sfM_isPart_23 N    h _ e) (fun _ e => zl hy 2 (pc2 := 11) (lv2 := [(0, .ref l0), (1, .int l1), (2, .int l2)]) (st2 := [.ref l0, .int l2]) rfl <| zx_gR hy rfl e fun x1 _ e => zl hy 1 (pc2 := 15) (lv2 := [(0, .ref l0), (1, .int l1), (2, .int l2)]) (st2 := [.int (Int32.ofInt 1), .ref x1, .int l2]) rfl <| zx_aI hy (j := .iaload) (Or.inl ⟨rfl, rfl⟩) rfl e fun x2 _ e => zx_c hy rfl e (fun _ e => zt_sub (z_fn) <| sfM_isPart_23 N    h _ e) (fun _ e => zl hy 2 (pc2 := 24) (lv2 := [(0, .ref l0), (1, .int l1), (2, .int l2)]) (st2 := [.int (Int32.ofInt 1)]) rfl <| zt_sub (z_fn) <| sfM_isPart_24 N   (Int32.ofInt 1) h _ e)))
theorem rfM_isPart (N : Nat) (l0 : Nat) (l1 : Int32) (l2 : Int32) (h : zH) (r : Int32 × zH) (e : fM_isPart N l0 l1 l2 h = some r) : fT h l0 5 = true := by
  unfold fM_isPart at e
  exact (cond_some e).1
/-- LyndonBenchModel.compareParts(IIII)I -/
theorem mfM_compareParts : z_me 253 zc_253 6 [] (some .int) := ⟨z_me0 rfl, rfl, rfl, rfl⟩
def fM_compareParts_71 (N : Nat)  (s0 : Int32) (h : zH) : Option (Int32 × zH) := some (s0, h)
theorem sfM_compareParts_71 {xs : List Int32} (N : Nat)   (s0 : Int32) (h : zH) (r : Int32 × zH) (e : fM_compareParts_71 N  s0 h = some r) : zt xs (2) 253 71 [] [.int s0] h 0 0 (zQ cI r) := by
  have hy := mfM_compareParts
  unfold fM_compareParts_71 at e
  exact zx_ret hy rfl rfl rfl rfl e
def fM_compareParts_25 (N : Nat)  (l0 : Nat) (l1 : Int32) (l2 : Int32) (l3 : Int32) (l4 : Int32) (s0 : Int32) (s1 : Nat) (h : zH) : Option (Int32 × zH) := b2 (fM_throwsOne N s1 s0 h) fun x3 h4 => cond (z_cmp .eq x3 (Int32.ofInt 0)) (b2 (fM_compares N l0 ((Int32.ofInt 3) + l1) (l2 - l1) ((Int32.ofInt 3) + l3) (l4 - l3) h4) fun x5 h6 => cond (z_cmp .ge x5 (Int32.ofInt 0)) (cond (z_cmp .le x5 (Int32.ofInt 0)) (fM_compareParts_71 N  (Int32.ofInt 0) h6) (fM_compareParts_71 N  (Int32.ofInt 1) h6)) (fM_compareParts_71 N  (Int32.ofInt (-1)) h6)) (some ((Int32.ofInt 0), h4))
theorem sfM_compareParts_25 {xs : List Int32} (N : Nat)   (l0 : Nat) (l1 : Int32) (l2 : Int32) (l3 : Int32) (l4 : Int32) (s0 : Int32) (s1 : Nat) (h : zH) (r : Int32 × zH) (e : fM_compareParts_25 N  l0 l1 l2 l3 l4 s0 s1 h = some r) : zt xs (2) 253 25 [(0, .ref l0), (1, .int l1), (2, .int l2), (3, .int l3), (4, .int l4)] [.int s0, .ref s1] h 0 0 (zQ cI r) := by
  have hy := mfM_compareParts
  unfold fM_compareParts_25 at e
  exact zx_call hy (as := [.ref s1, .int s0]) (rest := []) (ov := (fun v => some (.int v))) (fun _ => rfl) rfl rfl (Or.inl rfl) rfl rfl (Nat.le_of_ble_eq_true rfl) (Nat.le_of_ble_eq_true rfl) (fun _ e _ => z_rcvT (rfM_throwsOne N s1 s0 h _ e)) (fun _ e => zt_deep (Nat.le_of_ble_eq_true rfl) (sfM_throwsOne N s1 s0 h _ e)) e fun x3 h4 _ e => zx_c0 hy rfl e (fun _ e => zl hy 13 (pc2 := 47) (lv2 := [(0, .ref l0), (1, .int l1), (2, .int l2), (3, .int l3), (4, .int l4)]) (st2 := [.int (l4 - l3), .int ((Int32.ofInt 3) + l3), .int (l2 - l1), .int ((Int32.ofInt 3) + l1), .ref l0]) rfl <| zx_call hy (as := [.ref l0, .int ((Int32.ofInt 3) + l1), .int (l2 - l1), .int ((Int32.ofInt 3) + l3), .int (l4 - l3)]) (rest := []) (ov := (fun v => some (.int v))) (fun _ => rfl) rfl rfl (Or.inl rfl) rfl rfl (Nat.le_of_ble_eq_true rfl) (Nat.le_of_ble_eq_true rfl) (fun _ e _ => z_rcvT (rfM_compares N l0 ((Int32.ofInt 3) + l1) (l2 - l1) ((Int32.ofInt 3) + l3) (l4 - l3) h4 _ e)) (fun _ e => zt_deep (Nat.le_of_ble_eq_true rfl) (sfM_compares N l0 ((Int32.ofInt 3) + l1) (l2 - l1) ((Int32.ofInt 3) + l3) (l4 - l3) h4 _ e)) e fun x5 h6 _ e => zl hy 2 (pc2 := 54) (lv2 := [(5, .int x5), (0, .ref l0), (1, .int l1), (2, .int l2), (3, .int l3), (4, .int l4)]) (st2 := [.int x5]) rfl <| zx_c0 hy rfl e (fun _ e => zl hy 1 (pc2 := 63) (lv2 := [(5, .int x5), (0, .ref l0), (1, .int l1), (2, .int l2), (3, .int l3), (4, .int l4)]) (st2 := [.int x5]) rfl <| zx_c0 hy rfl e (fun _ e => zl hy 1 (pc2 := 71) (lv2 := [(5, .int x5), (0, .ref l0), (1, .int l1), (2, .int l2), (3, .int l3), (4, .int l4)]) (st2 := [.int (Int32.ofInt 0)]) rfl <| zt_sub (z_fn) <| sfM_compareParts_71 N   (Int32.ofInt 0) h6 _ e) (fun _ e => zl hy 2 (pc2 := 71) (lv2 := [(5, .int x5), (0, .ref l0), (1, .int l1), (2, .int l2), (3, .int l3), (4, .int l4)]) (st2 := [.int (Int32.ofInt 1)]) rfl <| zt_sub (z_fn) <| sfM_compareParts_71 N   (Int32.ofInt 1) h6 _ e)) (fun _ e => zl hy 2 (pc2 := 71) (lv2 := [(5, .int x5), (0, .ref l0), (1, .int l1), (2, .int l2), (3, .int l3), (4, .int l4)]) (st2 := [.int (Int32.ofInt (-1))]) rfl <| zt_sub (z_fn) <| sfM_compareParts_71 N   (Int32.ofInt (-1)) h6 _ e)) (fun _ e => zl hy 1 (pc2 := 32) (lv2 := [(0, .ref l0), (1, .int l1), (2, .int l2), (3, .int l3), (4, .int l4)]) (st2 := [.int (Int32.ofInt 0)]) rfl <| zx_ret hy rfl rfl rfl rfl e)
def fM_compareParts_20 (N : Nat)  (l0 : Nat) (l1 : Int32) (l2 : Int32) (l3 : Int32) (l4 : Int32) (s0 : Nat) (h : zH) : Option (Int32 × zH) := fM_compareParts_25 N  l0 l1 l2 l3 l4 (Int32.ofInt 1) s0 h
theorem sfM_compareParts_20 {xs : List Int32} (N : Nat)   (l0 : Nat) (l1 : Int32) (l2 : Int32) (l3 : Int32) (l4 : Int32) (s0 : Nat) (h : zH) (r : Int32 × zH) (e : fM_compareParts_20 N  l0 l1 l2 l3 l4 s0 h = some r) : zt xs (2) 253 20 [(0, .ref l0), (1, .int l1), (2, .int l2), (3, .int l3), (4, .int l4)] [.ref s0] h 0 0 (zQ cI r) := by
  have hy := mfM_compareParts
  unfold fM_compareParts_20 at e
  exact zl hy 2 (pc2 := 25) (lv2 := [(0, .ref l0), (1, .int l1), (2, .int l2), (3, .int l3), (4, .int l4)]) (st2 := [.int (Int32.ofInt 1), .ref s0]) rfl <| zt_sub (z_fc rfl (z_fc rfl (z_fc rfl (z_fc rfl (z_fc rfl (z_fn)))))) <| sfM_compareParts_25 N   l0 l1 l2 l3 l4 (Int32.ofInt 1) s0 h _ e
def fM_compareParts (N : Nat) (l0 : Nat) (l1 : Int32) (l2 : Int32) (l3 : Int32) (l4 : Int32) (h : zH) : Option (Int32 × zH) := cond (fT h l0 5) (b2 (fM_isPart N l0 l1 l2 h) fun x1 h2 => cond (z_cmp .eq x1 (Int32.ofInt 0)) (fM_compareParts_20 N  l0 l1 l2 l3 l4 l0 h2) (b2 (fM_isPart N l0 l3 l4 h2) fun x3 h4 => cond (z_cmp .ne x3 (Int32.ofInt 0)) (fM_compareParts_25 N  l0 l1 l2 l3 l4 (Int32.ofInt 0) l0 h4) (fM_compareParts_20 N  l0 l1 l2 l3 l4 l0 h4))) none
theorem sfM_compareParts {xs : List Int32} (N : Nat) (l0 : Nat) (l1 : Int32) (l2 : Int32) (l3 : Int32) (l4 : Int32) (h : zH) (r : Int32 × zH) (e : fM_compareParts N l0 l1 l2 l3 l4 h = some r) : zt xs (2) 253 0 [(0, .ref l0), (1, .int l1), (2, .int l2), (3, .int l3), (4, .int l4)] [] h 0 0 (zQ cI r) := by
  have hy := mfM_compareParts
  unfold fM_compareParts at e
  replace e := (cond_some e).2
  exact zl hy 4 (pc2 := 4) (lv2 := [(0, .ref l0), (1, .int l1), (2, .int l2), (3, .int l3), (4, .int l4)]) (st2 := [.int l2, .int l1, .ref l0, .ref l0]) rfl <| zx_call hy (as := [.ref l0, .int l1, .int l2]) (rest := [.ref l0]) (ov := (fun v => some (.int v))) (fun _ => rfl) rfl rfl (Or.inl rfl) rfl rfl (Nat.le_of_ble_eq_true rfl) (Nat.le_of_ble_eq_true rfl) (fun _ e _ => z_rcvT (rfM_isPart N l0 l1 l2 h _ e)) (fun _ e => zt_deep (Nat.le_of_ble_eq_true rfl) (sfM_isPart N l0 l1 l2 h _ e)) e fun x1 h2 _ e => zx_c0 hy rfl e (fun _ e => zt_sub (z_fc rfl (z_fc rfl (z_fc rfl (z_fc rfl (z_fc rfl (z_fn)))))) <| sfM_compareParts_20 N   l0 l1 l2 l3 l4 l0 h2 _ e) (fun _ e => zl hy 3 (pc2 := 14) (lv2 := [(0, .ref l0), (1, .int l1), (2, .int l2), (3, .int l3), (4, .int l4)]) (st2 := [.int l4, .int l3, .ref l0, .ref l0]) rfl <| zx_call hy (as := [.ref l0, .int l3, .int l4]) (rest := [.ref l0]) (ov := (fun v => some (.int v))) (fun _ => rfl) rfl rfl (Or.inl rfl) rfl rfl (Nat.le_of_ble_eq_true rfl) (Nat.le_of_ble_eq_true rfl) (fun _ e _ => z_rcvT (rfM_isPart N l0 l3 l4 h2 _ e)) (fun _ e => zt_deep (Nat.le_of_ble_eq_true rfl) (sfM_isPart N l0 l3 l4 h2 _ e)) e fun x3 h4 _ e => zx_c0 hy rfl e (fun _ e => zl hy 1 (pc2 := 25) (lv2 := [(0, .ref l0), (1, .int l1), (2, .int l2), (3, .int l3), (4, .int l4)]) (st2 := [.int (Int32.ofInt 0), .ref l0]) rfl <| zt_sub (z_fc rfl (z_fc rfl (z_fc rfl (z_fc rfl (z_fc rfl (z_fn)))))) <| sfM_compareParts_25 N   l0 l1 l2 l3 l4 (Int32.ofInt 0) l0 h4 _ e) (fun _ e => zt_sub (z_fc rfl (z_fc rfl (z_fc rfl (z_fc rfl (z_fc rfl (z_fn)))))) <| sfM_compareParts_20 N   l0 l1 l2 l3 l4 l0 h4 _ e))
theorem rfM_compareParts (N : Nat) (l0 : Nat) (l1 : Int32) (l2 : Int32) (l3 : Int32) (l4 : Int32) (h : zH) (r : Int32 × zH) (e : fM_compareParts N l0 l1 l2 l3 l4 h = some r) : fT h l0 5 = true := by
  unfold fM_compareParts at e
  exact (cond_some e).1
/-- LyndonBenchModel.factorCount()I -/
theorem mfM_factorCount : z_me 254 zc_254 1 [] (some .int) := ⟨z_me0 rfl, rfl, rfl, rfl⟩
def fM_factorCount (N : Nat) (l0 : Nat) (h : zH) : Option (Int32 × zH) := cond (fT h l0 5) (b1 (fS h l0 5 17 (.int (Int32.ofInt 0))) fun h1 => b2 (fM_factors N l0 h1) fun x2 h3 => some (x2, h3)) none
theorem sfM_factorCount {xs : List Int32} (N : Nat) (l0 : Nat) (h : zH) (r : Int32 × zH) (e : fM_factorCount N l0 h = some r) : zt xs (4) 254 0 [(0, .ref l0)] [] h 0 0 (zQ cI r) := by
  have hy := mfM_factorCount
  unfold fM_factorCount at e
  replace e := (cond_some e).2
  exact zl hy 2 (pc2 := 2) (lv2 := [(0, .ref l0)]) (st2 := [.int (Int32.ofInt 0), .ref l0]) rfl <| zx_pf hy rfl e (rfl) fun h1 _ e => zl hy 1 (pc2 := 6) (lv2 := [(0, .ref l0)]) (st2 := [.ref l0]) rfl <| zx_call hy (as := [.ref l0]) (rest := []) (ov := (fun v => some (.int v))) (fun _ => rfl) rfl rfl (Or.inl rfl) rfl rfl (Nat.le_of_ble_eq_true rfl) (Nat.le_of_ble_eq_true rfl) (fun _ e _ => z_rcvT (rfM_factors N l0 h1 _ e)) (fun _ e => zt_deep (Nat.le_of_ble_eq_true rfl) (sfM_factors N l0 h1 _ e)) e fun x2 h3 _ e => zx_ret hy rfl rfl rfl rfl e
theorem rfM_factorCount (N : Nat) (l0 : Nat) (h : zH) (r : Int32 × zH) (e : fM_factorCount N l0 h = some r) : fT h l0 5 = true := by
  unfold fM_factorCount at e
  exact (cond_some e).1
