/-! F functions, by program. -/
/-- LyndonBenchModel.isLess(II)Z -/
theorem mfM_isLess : z_me 159 zc_159 5 [] (some .boolean) := ⟨z_me0 rfl, rfl, rfl, rfl⟩
def fM_isLess_49 (N : Nat)  (s0 : Int32) (h : zH) : Option (Int32 × zH) := cond (decide (s0 = Int32.ofInt 0) || decide (s0 = Int32.ofInt 1)) (some (s0, h)) none
theorem sfM_isLess_49 {xs : List Int32} (N : Nat)   (s0 : Int32) (h : zH) (r : Int32 × zH) (e : fM_isLess_49 N  s0 h = some r) : zt xs (1) 159 49 [] [.int s0] h 0 0 (zQ cI r) := by
  have hy := mfM_isLess
  unfold fM_isLess_49 at e
  exact zx_retB hy rfl rfl e
def fM_isLess_2 (N : Nat) : Nat → Nat → Int32 → Int32 → Int32 → zH → Option (Int32 × zH)
  | 0, _, _, _, _, _ => none
  | n + 1, l0, l1, l2, l3, h => b1 (fI h l0 5 14) fun x1 => cond (z_cmp .ge l3 x1) (some ((Int32.ofInt 1), h)) (b1 (fR h l0 5 8) fun x2 => b1 (fAI h x2 100 ((l2 + l3) - l1)) fun x3 => b1 (fR h l0 5 8) fun x4 => b1 (fAI h x4 100 l3) fun x5 => cond (z_cmp .eq x5 x3) (fM_isLess_2 N n  l0 l1 l2 (l3 + Int32.ofInt 1) h) (b1 (fR h l0 5 8) fun x6 => b1 (fAI h x6 100 l3) fun x7 => cond (z_cmp .ge x7 x3) (fM_isLess_49 N  (Int32.ofInt 0) h) (fM_isLess_49 N  (Int32.ofInt 1) h)))
theorem sfM_isLess_2 {xs : List Int32} (N : Nat)   : ∀ (n : Nat) (l0 : Nat) (l1 : Int32) (l2 : Int32) (l3 : Int32) (h : zH) (r : Int32 × zH), fM_isLess_2 N n  l0 l1 l2 l3 h = some r → zt xs (1) 159 2 [(0, .ref l0), (1, .int l1), (2, .int l2), (3, .int l3)] [] h 0 0 (zQ cI r) := by
  have hy := mfM_isLess
  intro n
  induction n with
  | zero =>
    intro l0 l1 l2 l3 h r e
    rw [fM_isLess_2] at e
    cases e
  | succ n ih =>
    intro l0 l1 l2 l3 h r e
    rw [fM_isLess_2] at e
    exact zl hy 2 (pc2 := 4) (lv2 := [(0, .ref l0), (1, .int l1), (2, .int l2), (3, .int l3)]) (st2 := [.ref l0, .int l3]) rfl <| zx_gI hy rfl e fun x1 _ e => zx_c hy rfl e (fun _ e => zl hy 1 (pc2 := 57) (lv2 := [(0, .ref l0), (1, .int l1), (2, .int l2), (3, .int l3)]) (st2 := [.int (Int32.ofInt 1)]) rfl <| zx_ret hy (v := .int (Int32.ofInt 1)) rfl rfl (by decide) rfl e) (fun _ e => zl hy 1 (pc2 := 11) (lv2 := [(0, .ref l0), (1, .int l1), (2, .int l2), (3, .int l3)]) (st2 := [.ref l0]) rfl <| zx_gR hy rfl e fun x2 _ e => zl hy 5 (pc2 := 19) (lv2 := [(0, .ref l0), (1, .int l1), (2, .int l2), (3, .int l3)]) (st2 := [.int ((l2 + l3) - l1), .ref x2]) rfl <| zx_aI hy (j := .iaload) (Or.inl ⟨rfl, rfl⟩) rfl e fun x3 _ e => zl hy 2 (pc2 := 23) (lv2 := [(4, .int x3), (0, .ref l0), (1, .int l1), (2, .int l2), (3, .int l3)]) (st2 := [.ref l0]) rfl <| zx_gR hy rfl e fun x4 _ e => zl hy 1 (pc2 := 27) (lv2 := [(4, .int x3), (0, .ref l0), (1, .int l1), (2, .int l2), (3, .int l3)]) (st2 := [.int l3, .ref x4]) rfl <| zx_aI hy (j := .iaload) (Or.inl ⟨rfl, rfl⟩) rfl e fun x5 _ e => zl hy 1 (pc2 := 30) (lv2 := [(4, .int x3), (0, .ref l0), (1, .int l1), (2, .int l2), (3, .int l3)]) (st2 := [.int x3, .int x5]) rfl <| zx_c hy rfl e (fun _ e => zl hy 2 (pc2 := 2) (lv2 := [(3, .int (l3 + Int32.ofInt 1)), (4, .int x3), (0, .ref l0), (1, .int l1), (2, .int l2)]) (st2 := []) rfl <| zt_sub (z_fc rfl (z_fc rfl (z_fc rfl (z_fc rfl (z_fn))))) <| ih l0 l1 l2 (l3 + Int32.ofInt 1) h _ e) (fun _ e => zl hy 1 (pc2 := 34) (lv2 := [(4, .int x3), (0, .ref l0), (1, .int l1), (2, .int l2), (3, .int l3)]) (st2 := [.ref l0]) rfl <| zx_gR hy rfl e fun x6 _ e => zl hy 1 (pc2 := 38) (lv2 := [(4, .int x3), (0, .ref l0), (1, .int l1), (2, .int l2), (3, .int l3)]) (st2 := [.int l3, .ref x6]) rfl <| zx_aI hy (j := .iaload) (Or.inl ⟨rfl, rfl⟩) rfl e fun x7 _ e => zl hy 1 (pc2 := 41) (lv2 := [(4, .int x3), (0, .ref l0), (1, .int l1), (2, .int l2), (3, .int l3)]) (st2 := [.int x3, .int x7]) rfl <| zx_c hy rfl e (fun _ e => zl hy 1 (pc2 := 49) (lv2 := [(4, .int x3), (0, .ref l0), (1, .int l1), (2, .int l2), (3, .int l3)]) (st2 := [.int (Int32.ofInt 0)]) rfl <| zt_sub (z_fn) <| sfM_isLess_49 N   (Int32.ofInt 0) h _ e) (fun _ e => zl hy 2 (pc2 := 49) (lv2 := [(4, .int x3), (0, .ref l0), (1, .int l1), (2, .int l2), (3, .int l3)]) (st2 := [.int (Int32.ofInt 1)]) rfl <| zt_sub (z_fn) <| sfM_isLess_49 N   (Int32.ofInt 1) h _ e)))
def fM_isLess (N : Nat) (l0 : Nat) (l1 : Int32) (l2 : Int32) (h : zH) : Option (Int32 × zH) := cond (fT h l0 5) (fM_isLess_2 N N  l0 l1 l2 l1 h) none
theorem sfM_isLess {xs : List Int32} (N : Nat) (l0 : Nat) (l1 : Int32) (l2 : Int32) (h : zH) (r : Int32 × zH) (e : fM_isLess N l0 l1 l2 h = some r) : zt xs (1) 159 0 [(0, .ref l0), (1, .int l1), (2, .int l2)] [] h 0 0 (zQ cI r) := by
  have hy := mfM_isLess
  unfold fM_isLess at e
  replace e := (cond_some e).2
  exact zl hy 2 (pc2 := 2) (lv2 := [(3, .int l1), (0, .ref l0), (1, .int l1), (2, .int l2)]) (st2 := []) rfl <| zt_sub (z_fc rfl (z_fc rfl (z_fc rfl (z_fc rfl (z_fn))))) <| sfM_isLess_2 N   N l0 l1 l2 l1 h _ e
theorem rfM_isLess (N : Nat) (l0 : Nat) (l1 : Int32) (l2 : Int32) (h : zH) (r : Int32 × zH) (e : fM_isLess N l0 l1 l2 h = some r) : fT h l0 5 = true := by
  unfold fM_isLess at e
  exact (cond_some e).1
/-- LyndonBenchModel.cuts()I -/
theorem mfM_cuts : z_me 160 zc_160 3 [] (some .int) := ⟨z_me0 rfl, rfl, rfl, rfl⟩
def fM_cuts_42 (N : Nat) (k4 : Nat → Int32 → Int32 → zH → Option (Int32 × zH)) (l0 : Nat) (l1 : Int32) (l2 : Int32) (h : zH) : Option (Int32 × zH) := k4 l0 l1 (l2 + Int32.ofInt 1) h
theorem sfM_cuts_42 {xs : List Int32} (N : Nat) (k4 : Nat → Int32 → Int32 → zH → Option (Int32 × zH))  (hk4 : ∀ (l0 : Nat) (l1 : Int32) (l2 : Int32) (h : zH) (r : Int32 × zH), k4 l0 l1 l2 h = some r → zt xs (2) 160 4 [(0, .ref l0), (1, .int l1), (2, .int l2)] [] h 0 0 (zQ cI r)) (l0 : Nat) (l1 : Int32) (l2 : Int32) (h : zH) (r : Int32 × zH) (e : fM_cuts_42 N k4 l0 l1 l2 h = some r) : zt xs (2) 160 42 [(0, .ref l0), (1, .int l1), (2, .int l2)] [] h 0 0 (zQ cI r) := by
  have hy := mfM_cuts
  unfold fM_cuts_42 at e
  exact zl hy 2 (pc2 := 4) (lv2 := [(2, .int (l2 + Int32.ofInt 1)), (0, .ref l0), (1, .int l1)]) (st2 := []) rfl <| zt_sub (z_fc rfl (z_fc rfl (z_fc rfl (z_fn)))) <| hk4 l0 l1 (l2 + Int32.ofInt 1) h _ e
def fM_cuts_32 (N : Nat) (k4 : Nat → Int32 → Int32 → zH → Option (Int32 × zH)) (l0 : Nat) (l1 : Int32) (l2 : Int32) (h : zH) : Option (Int32 × zH) := b1 (fR h l0 5 9) fun x5 => b1 (fAS h x5 100 l1 (.int l2)) fun h6 => fM_cuts_42 N k4 l0 (l1 + Int32.ofInt 1) l2 h6
theorem sfM_cuts_32 {xs : List Int32} (N : Nat) (k4 : Nat → Int32 → Int32 → zH → Option (Int32 × zH))  (hk4 : ∀ (l0 : Nat) (l1 : Int32) (l2 : Int32) (h : zH) (r : Int32 × zH), k4 l0 l1 l2 h = some r → zt xs (2) 160 4 [(0, .ref l0), (1, .int l1), (2, .int l2)] [] h 0 0 (zQ cI r)) (l0 : Nat) (l1 : Int32) (l2 : Int32) (h : zH) (r : Int32 × zH) (e : fM_cuts_32 N k4 l0 l1 l2 h = some r) : zt xs (2) 160 32 [(0, .ref l0), (1, .int l1), (2, .int l2)] [] h 0 0 (zQ cI r) := by
  have hy := mfM_cuts
  unfold fM_cuts_32 at e
  exact zl hy 1 (pc2 := 33) (lv2 := [(0, .ref l0), (1, .int l1), (2, .int l2)]) (st2 := [.ref l0]) rfl <| zx_gR hy rfl e fun x5 _ e => zl hy 2 (pc2 := 38) (lv2 := [(0, .ref l0), (1, .int l1), (2, .int l2)]) (st2 := [.int l2, .int l1, .ref x5]) rfl <| zx_sI hy (j := .iastore) (Or.inl ⟨rfl, rfl, rfl⟩) rfl e fun h6 _ e => zl hy 1 (pc2 := 42) (lv2 := [(1, .int (l1 + Int32.ofInt 1)), (0, .ref l0), (2, .int l2)]) (st2 := []) rfl <| zt_sub (z_fc rfl (z_fc rfl (z_fc rfl (z_fn)))) <| sfM_cuts_42 N k4 hk4 l0 (l1 + Int32.ofInt 1) l2 h6 _ e
def fM_cuts_4 (N : Nat) : Nat → Nat → Int32 → Int32 → zH → Option (Int32 × zH)
  | 0, _, _, _, _ => none
  | n + 1, l0, l1, l2, h => b1 (fI h l0 5 14) fun x1 => cond (z_cmp .ge l2 x1) (b1 (fR h l0 5 9) fun x2 => b1 (fI h l0 5 14) fun x3 => b1 (fAS h x2 100 l1 (.int x3)) fun h4 => some (l1, h4)) (cond (z_cmp .eq l1 (Int32.ofInt 0)) (fM_cuts_32 N (fM_cuts_4 N n ) l0 l1 l2 h) (b1 (fR h l0 5 9) fun x5 => b1 (fAI h x5 100 (l1 - (Int32.ofInt 1))) fun x6 => b2 (fM_isLess N l0 l2 x6 h) fun x7 h8 => cond (z_cmp .eq x7 (Int32.ofInt 0)) (fM_cuts_42 N (fM_cuts_4 N n ) l0 l1 l2 h8) (fM_cuts_32 N (fM_cuts_4 N n ) l0 l1 l2 h8)))
theorem sfM_cuts_4 {xs : List Int32} (N : Nat)   : ∀ (n : Nat) (l0 : Nat) (l1 : Int32) (l2 : Int32) (h : zH) (r : Int32 × zH), fM_cuts_4 N n  l0 l1 l2 h = some r → zt xs (2) 160 4 [(0, .ref l0), (1, .int l1), (2, .int l2)] [] h 0 0 (zQ cI r) := by
  have hy := mfM_cuts
  intro n
  induction n with
  | zero =>
    intro l0 l1 l2 h r e
    rw [fM_cuts_4] at e
    cases e
  | succ n ih =>
    intro l0 l1 l2 h r e
    rw [fM_cuts_4] at e
    exact zl hy 2 (pc2 := 6) (lv2 := [(0, .ref l0), (1, .int l1), (2, .int l2)]) (st2 := [.ref l0, .int l2]) rfl <| zx_gI hy rfl e fun x1 _ e => zx_c hy rfl e (fun _ e => zl hy 1 (pc2 := 49) (lv2 := [(0, .ref l0), (1, .int l1), (2, .int l2)]) (st2 := [.ref l0]) rfl <| zx_gR hy rfl e fun x2 _ e => zl hy 2 (pc2 := 54) (lv2 := [(0, .ref l0), (1, .int l1), (2, .int l2)]) (st2 := [.ref l0, .int l1, .ref x2]) rfl <| zx_gI hy rfl e fun x3 _ e => zx_sI hy (j := .iastore) (Or.inl ⟨rfl, rfl, rfl⟩) rfl e fun h4 _ e => zl hy 1 (pc2 := 59) (lv2 := [(0, .ref l0), (1, .int l1), (2, .int l2)]) (st2 := [.int l1]) rfl <| zx_ret hy rfl rfl rfl rfl e) (fun _ e => zl hy 1 (pc2 := 13) (lv2 := [(0, .ref l0), (1, .int l1), (2, .int l2)]) (st2 := [.int l1]) rfl <| zx_c0 hy rfl e (fun _ e => zt_sub (z_fc rfl (z_fc rfl (z_fc rfl (z_fn)))) <| sfM_cuts_32 N (fM_cuts_4 N n ) ih l0 l1 l2 h _ e) (fun _ e => zl hy 3 (pc2 := 19) (lv2 := [(0, .ref l0), (1, .int l1), (2, .int l2)]) (st2 := [.ref l0, .int l2, .ref l0]) rfl <| zx_gR hy rfl e fun x5 _ e => zl hy 3 (pc2 := 25) (lv2 := [(0, .ref l0), (1, .int l1), (2, .int l2)]) (st2 := [.int (l1 - (Int32.ofInt 1)), .ref x5, .int l2, .ref l0]) rfl <| zx_aI hy (j := .iaload) (Or.inl ⟨rfl, rfl⟩) rfl e fun x6 _ e => zx_call hy (as := [.ref l0, .int l2, .int x6]) (rest := []) (ov := (fun v => some (.int v))) (fun _ => rfl) rfl rfl (Or.inl rfl) rfl rfl (Nat.le_of_ble_eq_true rfl) (Nat.le_of_ble_eq_true rfl) (fun _ e _ => z_rcvT (rfM_isLess N l0 l2 x6 h _ e)) (fun _ e => zt_deep (Nat.le_of_ble_eq_true rfl) (sfM_isLess N l0 l2 x6 h _ e)) e fun x7 h8 _ e => zx_c0 hy rfl e (fun _ e => zt_sub (z_fc rfl (z_fc rfl (z_fc rfl (z_fn)))) <| sfM_cuts_42 N (fM_cuts_4 N n ) ih l0 l1 l2 h8 _ e) (fun _ e => zt_sub (z_fc rfl (z_fc rfl (z_fc rfl (z_fn)))) <| sfM_cuts_32 N (fM_cuts_4 N n ) ih l0 l1 l2 h8 _ e)))
def fM_cuts (N : Nat) (l0 : Nat) (h : zH) : Option (Int32 × zH) := cond (fT h l0 5) (fM_cuts_4 N N  l0 (Int32.ofInt 0) (Int32.ofInt 0) h) none
theorem sfM_cuts {xs : List Int32} (N : Nat) (l0 : Nat) (h : zH) (r : Int32 × zH) (e : fM_cuts N l0 h = some r) : zt xs (2) 160 0 [(0, .ref l0)] [] h 0 0 (zQ cI r) := by
  have hy := mfM_cuts
  unfold fM_cuts at e
  replace e := (cond_some e).2
  exact zl hy 4 (pc2 := 4) (lv2 := [(2, .int (Int32.ofInt 0)), (1, .int (Int32.ofInt 0)), (0, .ref l0)]) (st2 := []) rfl <| zt_sub (z_fc rfl (z_fc rfl (z_fc rfl (z_fn)))) <| sfM_cuts_4 N   N l0 (Int32.ofInt 0) (Int32.ofInt 0) h _ e
theorem rfM_cuts (N : Nat) (l0 : Nat) (h : zH) (r : Int32 × zH) (e : fM_cuts N l0 h = some r) : fT h l0 5 = true := by
  unfold fM_cuts at e
  exact (cond_some e).1
/-- LyndonBenchModel.factors()I -/
theorem mfM_factors : z_me 161 zc_161 1 [] (some .int) := ⟨z_me0 rfl, rfl, rfl, rfl⟩
def fM_factors (N : Nat) (l0 : Nat) (h : zH) : Option (Int32 × zH) := cond (fT h l0 5) (b2 (fM_loads N l0 h) fun _ h2 => b2 (fM_cuts N l0 h2) fun x3 h4 => some (x3, h4)) none
theorem sfM_factors {xs : List Int32} (N : Nat) (l0 : Nat) (h : zH) (r : Int32 × zH) (e : fM_factors N l0 h = some r) : zt xs (3) 161 0 [(0, .ref l0)] [] h 0 0 (zQ cI r) := by
  have hy := mfM_factors
  unfold fM_factors at e
  replace e := (cond_some e).2
  exact zl hy 1 (pc2 := 1) (lv2 := [(0, .ref l0)]) (st2 := [.ref l0]) rfl <| zx_call hy (as := [.ref l0]) (rest := []) (ov := (fun _ => none)) (fun _ => rfl) rfl rfl (Or.inl rfl) rfl rfl (Nat.le_of_ble_eq_true rfl) (Nat.le_of_ble_eq_true rfl) (fun _ e _ => z_rcvT (rfM_loads N l0 h _ e)) (fun _ e => zt_deep (Nat.le_of_ble_eq_true rfl) (sfM_loads N l0 h _ e)) e fun _ h2 _ e => zl hy 1 (pc2 := 5) (lv2 := [(0, .ref l0)]) (st2 := [.ref l0]) rfl <| zx_call hy (as := [.ref l0]) (rest := []) (ov := (fun v => some (.int v))) (fun _ => rfl) rfl rfl (Or.inl rfl) rfl rfl (Nat.le_of_ble_eq_true rfl) (Nat.le_of_ble_eq_true rfl) (fun _ e _ => z_rcvT (rfM_cuts N l0 h2 _ e)) (fun _ e => zt_deep (Nat.le_of_ble_eq_true rfl) (sfM_cuts N l0 h2 _ e)) e fun x3 h4 _ e => zx_ret hy rfl rfl rfl rfl e
theorem rfM_factors (N : Nat) (l0 : Nat) (h : zH) (r : Int32 × zH) (e : fM_factors N l0 h = some r) : fT h l0 5 = true := by
  unfold fM_factors at e
  exact (cond_some e).1
/-- LyndonBenchModel.turned(I)I -/
theorem mfM_turned : z_me 162 zc_162 4 [] (some .int) := ⟨z_me0 rfl, rfl, rfl, rfl⟩
def fM_turned_2 (N : Nat) : Nat → Nat → Int32 → Int32 → zH → Option (Int32 × zH)
  | 0, _, _, _, _ => none
  | n + 1, l0, l1, l2, h => b1 (fI h l0 5 14) fun x1 => cond (z_cmp .ge l2 x1) (some ((Int32.ofInt 0), h)) (b1 (fR h l0 5 8) fun x2 => b1 (fI h l0 5 14) fun x3 => (if x3 = Int32.ofInt 0 then none else b1 (fAI h x2 100 ((l2 + l1) - (l2 + l1) / x3 * x3)) fun x5 => b1 (fR h l0 5 8) fun x6 => b1 (fAI h x6 100 l2) fun x7 => cond (z_cmp .eq x5 x7) (fM_turned_2 N n  l0 l1 (l2 + Int32.ofInt 1) h) (b1 (fR h l0 5 8) fun x8 => b1 (fAI h x8 100 l2) fun x9 => some ((x5 - x9), h))))
theorem sfM_turned_2 {xs : List Int32} (N : Nat)   : ∀ (n : Nat) (l0 : Nat) (l1 : Int32) (l2 : Int32) (h : zH) (r : Int32 × zH), fM_turned_2 N n  l0 l1 l2 h = some r → zt xs (1) 162 2 [(0, .ref l0), (1, .int l1), (2, .int l2)] [] h 0 0 (zQ cI r) := by
  have hy := mfM_turned
  intro n
  induction n with
  | zero =>
    intro l0 l1 l2 h r e
    rw [fM_turned_2] at e
    cases e
  | succ n ih =>
    intro l0 l1 l2 h r e
    rw [fM_turned_2] at e
    exact zl hy 2 (pc2 := 4) (lv2 := [(0, .ref l0), (1, .int l1), (2, .int l2)]) (st2 := [.ref l0, .int l2]) rfl <| zx_gI hy rfl e fun x1 _ e => zx_c hy rfl e (fun _ e => zl hy 1 (pc2 := 50) (lv2 := [(0, .ref l0), (1, .int l1), (2, .int l2)]) (st2 := [.int (Int32.ofInt 0)]) rfl <| zx_ret hy rfl rfl rfl rfl e) (fun _ e => zl hy 1 (pc2 := 11) (lv2 := [(0, .ref l0), (1, .int l1), (2, .int l2)]) (st2 := [.ref l0]) rfl <| zx_gR hy rfl e fun x2 _ e => zl hy 4 (pc2 := 18) (lv2 := [(0, .ref l0), (1, .int l1), (2, .int l2)]) (st2 := [.ref l0, .int (l2 + l1), .ref x2]) rfl <| zx_gI hy rfl e fun x3 _ e => zx_rem hy (G := fun _ => b1 (fAI h x2 100 ((l2 + l1) - (l2 + l1) / x3 * x3)) fun x5 => b1 (fR h l0 5 8) fun x6 => b1 (fAI h x6 100 l2) fun x7 => cond (z_cmp .eq x5 x7) (fM_turned_2 N n  l0 l1 (l2 + Int32.ofInt 1) h) (b1 (fR h l0 5 8) fun x8 => b1 (fAI h x8 100 l2) fun x9 => some ((x5 - x9), h))) rfl e fun _ e => zx_aI hy (j := .iaload) (Or.inl ⟨rfl, rfl⟩) rfl e fun x5 _ e => zl hy 3 (pc2 := 26) (lv2 := [(3, .int x5), (0, .ref l0), (1, .int l1), (2, .int l2)]) (st2 := [.ref l0, .int x5]) rfl <| zx_gR hy rfl e fun x6 _ e => zl hy 1 (pc2 := 30) (lv2 := [(3, .int x5), (0, .ref l0), (1, .int l1), (2, .int l2)]) (st2 := [.int l2, .ref x6, .int x5]) rfl <| zx_aI hy (j := .iaload) (Or.inl ⟨rfl, rfl⟩) rfl e fun x7 _ e => zx_c hy rfl e (fun _ e => zl hy 2 (pc2 := 2) (lv2 := [(2, .int (l2 + Int32.ofInt 1)), (3, .int x5), (0, .ref l0), (1, .int l1)]) (st2 := []) rfl <| zt_sub (z_fc rfl (z_fc rfl (z_fc rfl (z_fn)))) <| ih l0 l1 (l2 + Int32.ofInt 1) h _ e) (fun _ e => zl hy 2 (pc2 := 36) (lv2 := [(3, .int x5), (0, .ref l0), (1, .int l1), (2, .int l2)]) (st2 := [.ref l0, .int x5]) rfl <| zx_gR hy rfl e fun x8 _ e => zl hy 1 (pc2 := 40) (lv2 := [(3, .int x5), (0, .ref l0), (1, .int l1), (2, .int l2)]) (st2 := [.int l2, .ref x8, .int x5]) rfl <| zx_aI hy (j := .iaload) (Or.inl ⟨rfl, rfl⟩) rfl e fun x9 _ e => zl hy 1 (pc2 := 42) (lv2 := [(3, .int x5), (0, .ref l0), (1, .int l1), (2, .int l2)]) (st2 := [.int (x5 - x9)]) rfl <| zx_ret hy rfl rfl rfl rfl e))
def fM_turned (N : Nat) (l0 : Nat) (l1 : Int32) (h : zH) : Option (Int32 × zH) := cond (fT h l0 5) (fM_turned_2 N N  l0 l1 (Int32.ofInt 0) h) none
theorem sfM_turned {xs : List Int32} (N : Nat) (l0 : Nat) (l1 : Int32) (h : zH) (r : Int32 × zH) (e : fM_turned N l0 l1 h = some r) : zt xs (1) 162 0 [(0, .ref l0), (1, .int l1)] [] h 0 0 (zQ cI r) := by
  have hy := mfM_turned
  unfold fM_turned at e
  replace e := (cond_some e).2
  exact zl hy 2 (pc2 := 2) (lv2 := [(2, .int (Int32.ofInt 0)), (0, .ref l0), (1, .int l1)]) (st2 := []) rfl <| zt_sub (z_fc rfl (z_fc rfl (z_fc rfl (z_fn)))) <| sfM_turned_2 N   N l0 l1 (Int32.ofInt 0) h _ e
theorem rfM_turned (N : Nat) (l0 : Nat) (l1 : Int32) (h : zH) (r : Int32 × zH) (e : fM_turned N l0 l1 h = some r) : fT h l0 5 = true := by
  unfold fM_turned at e
  exact (cond_some e).1
/-- LyndonBenchModel.isPrimitiveRow()Z -/
theorem mfM_isPrimitiveRow : z_me 163 zc_163 2 [] (some .boolean) := ⟨z_me0 rfl, rfl, rfl, rfl⟩
def fM_isPrimitiveRow_38 (N : Nat)  (s0 : Int32) (h : zH) : Option (Int32 × zH) := cond (decide (s0 = Int32.ofInt 0) || decide (s0 = Int32.ofInt 1)) (some (s0, h)) none
theorem sfM_isPrimitiveRow_38 {xs : List Int32} (N : Nat)   (s0 : Int32) (h : zH) (r : Int32 × zH) (e : fM_isPrimitiveRow_38 N  s0 h = some r) : zt xs (2) 163 38 [] [.int s0] h 0 0 (zQ cI r) := by
  have hy := mfM_isPrimitiveRow
  unfold fM_isPrimitiveRow_38 at e
  exact zx_retB hy rfl rfl e
def fM_isPrimitiveRow_2 (N : Nat) : Nat → Nat → Int32 → zH → Option (Int32 × zH)
  | 0, _, _, _ => none
  | n + 1, l0, l1, h => b1 (fI h l0 5 14) fun x1 => cond (z_cmp .ge l1 x1) (b1 (fI h l0 5 14) fun x2 => cond (z_cmp .le x2 (Int32.ofInt 0)) (fM_isPrimitiveRow_38 N  (Int32.ofInt 0) h) (fM_isPrimitiveRow_38 N  (Int32.ofInt 1) h)) (b2 (fM_turned N l0 l1 h) fun x3 h4 => cond (z_cmp .ne x3 (Int32.ofInt 0)) (fM_isPrimitiveRow_2 N n  l0 (l1 + Int32.ofInt 1) h4) (some ((Int32.ofInt 0), h4)))
theorem sfM_isPrimitiveRow_2 {xs : List Int32} (N : Nat)   : ∀ (n : Nat) (l0 : Nat) (l1 : Int32) (h : zH) (r : Int32 × zH), fM_isPrimitiveRow_2 N n  l0 l1 h = some r → zt xs (2) 163 2 [(0, .ref l0), (1, .int l1)] [] h 0 0 (zQ cI r) := by
  have hy := mfM_isPrimitiveRow
  intro n
  induction n with
  | zero =>
    intro l0 l1 h r e
    rw [fM_isPrimitiveRow_2] at e
    cases e
  | succ n ih =>
    intro l0 l1 h r e
    rw [fM_isPrimitiveRow_2] at e
    exact zl hy 2 (pc2 := 4) (lv2 := [(0, .ref l0), (1, .int l1)]) (st2 := [.ref l0, .int l1]) rfl <| zx_gI hy rfl e fun x1 _ e => zx_c hy rfl e (fun _ e => zl hy 1 (pc2 := 27) (lv2 := [(0, .ref l0), (1, .int l1)]) (st2 := [.ref l0]) rfl <| zx_gI hy rfl e fun x2 _ e => zx_c0 hy rfl e (fun _ e => zl hy 1 (pc2 := 38) (lv2 := [(0, .ref l0), (1, .int l1)]) (st2 := [.int (Int32.ofInt 0)]) rfl <| zt_sub (z_fn) <| sfM_isPrimitiveRow_38 N   (Int32.ofInt 0) h _ e) (fun _ e => zl hy 2 (pc2 := 38) (lv2 := [(0, .ref l0), (1, .int l1)]) (st2 := [.int (Int32.ofInt 1)]) rfl <| zt_sub (z_fn) <| sfM_isPrimitiveRow_38 N   (Int32.ofInt 1) h _ e)) (fun _ e => zl hy 2 (pc2 := 12) (lv2 := [(0, .ref l0), (1, .int l1)]) (st2 := [.int l1, .ref l0]) rfl <| zx_call hy (as := [.ref l0, .int l1]) (rest := []) (ov := (fun v => some (.int v))) (fun _ => rfl) rfl rfl (Or.inl rfl) rfl rfl (Nat.le_of_ble_eq_true rfl) (Nat.le_of_ble_eq_true rfl) (fun _ e _ => z_rcvT (rfM_turned N l0 l1 h _ e)) (fun _ e => zt_deep (Nat.le_of_ble_eq_true rfl) (sfM_turned N l0 l1 h _ e)) e fun x3 h4 _ e => zx_c0 hy rfl e (fun _ e => zl hy 2 (pc2 := 2) (lv2 := [(1, .int (l1 + Int32.ofInt 1)), (0, .ref l0)]) (st2 := []) rfl <| zt_sub (z_fc rfl (z_fc rfl (z_fn))) <| ih l0 (l1 + Int32.ofInt 1) h4 _ e) (fun _ e => zl hy 1 (pc2 := 19) (lv2 := [(0, .ref l0), (1, .int l1)]) (st2 := [.int (Int32.ofInt 0)]) rfl <| zx_ret hy (v := .int (Int32.ofInt 0)) rfl rfl (by decide) rfl e))
def fM_isPrimitiveRow (N : Nat) (l0 : Nat) (h : zH) : Option (Int32 × zH) := cond (fT h l0 5) (fM_isPrimitiveRow_2 N N  l0 (Int32.ofInt 1) h) none
theorem sfM_isPrimitiveRow {xs : List Int32} (N : Nat) (l0 : Nat) (h : zH) (r : Int32 × zH) (e : fM_isPrimitiveRow N l0 h = some r) : zt xs (2) 163 0 [(0, .ref l0)] [] h 0 0 (zQ cI r) := by
  have hy := mfM_isPrimitiveRow
  unfold fM_isPrimitiveRow at e
  replace e := (cond_some e).2
  exact zl hy 2 (pc2 := 2) (lv2 := [(1, .int (Int32.ofInt 1)), (0, .ref l0)]) (st2 := []) rfl <| zt_sub (z_fc rfl (z_fc rfl (z_fn))) <| sfM_isPrimitiveRow_2 N   N l0 (Int32.ofInt 1) h _ e
theorem rfM_isPrimitiveRow (N : Nat) (l0 : Nat) (h : zH) (r : Int32 × zH) (e : fM_isPrimitiveRow N l0 h = some r) : fT h l0 5 = true := by
  unfold fM_isPrimitiveRow at e
  exact (cond_some e).1
/-- LyndonBenchModel.isLeastRow()Z -/
theorem mfM_isLeastRow : z_me 164 zc_164 2 [] (some .boolean) := ⟨z_me0 rfl, rfl, rfl, rfl⟩
def fM_isLeastRow_38 (N : Nat)  (s0 : Int32) (h : zH) : Option (Int32 × zH) := cond (decide (s0 = Int32.ofInt 0) || decide (s0 = Int32.ofInt 1)) (some (s0, h)) none
theorem sfM_isLeastRow_38 {xs : List Int32} (N : Nat)   (s0 : Int32) (h : zH) (r : Int32 × zH) (e : fM_isLeastRow_38 N  s0 h = some r) : zt xs (2) 164 38 [] [.int s0] h 0 0 (zQ cI r) := by
  have hy := mfM_isLeastRow
  unfold fM_isLeastRow_38 at e
  exact zx_retB hy rfl rfl e
def fM_isLeastRow_2 (N : Nat) : Nat → Nat → Int32 → zH → Option (Int32 × zH)
  | 0, _, _, _ => none
  | n + 1, l0, l1, h => b1 (fI h l0 5 14) fun x1 => cond (z_cmp .ge l1 x1) (b1 (fI h l0 5 14) fun x2 => cond (z_cmp .le x2 (Int32.ofInt 0)) (fM_isLeastRow_38 N  (Int32.ofInt 0) h) (fM_isLeastRow_38 N  (Int32.ofInt 1) h)) (b2 (fM_turned N l0 l1 h) fun x3 h4 => cond (z_cmp .ge x3 (Int32.ofInt 0)) (fM_isLeastRow_2 N n  l0 (l1 + Int32.ofInt 1) h4) (some ((Int32.ofInt 0), h4)))
theorem sfM_isLeastRow_2 {xs : List Int32} (N : Nat)   : ∀ (n : Nat) (l0 : Nat) (l1 : Int32) (h : zH) (r : Int32 × zH), fM_isLeastRow_2 N n  l0 l1 h = some r → zt xs (2) 164 2 [(0, .ref l0), (1, .int l1)] [] h 0 0 (zQ cI r) := by
  have hy := mfM_isLeastRow
  intro n
  induction n with
  | zero =>
    intro l0 l1 h r e
    rw [fM_isLeastRow_2] at e
    cases e
  | succ n ih =>
    intro l0 l1 h r e
    rw [fM_isLeastRow_2] at e
    exact zl hy 2 (pc2 := 4) (lv2 := [(0, .ref l0), (1, .int l1)]) (st2 := [.ref l0, .int l1]) rfl <| zx_gI hy rfl e fun x1 _ e => zx_c hy rfl e (fun _ e => zl hy 1 (pc2 := 27) (lv2 := [(0, .ref l0), (1, .int l1)]) (st2 := [.ref l0]) rfl <| zx_gI hy rfl e fun x2 _ e => zx_c0 hy rfl e (fun _ e => zl hy 1 (pc2 := 38) (lv2 := [(0, .ref l0), (1, .int l1)]) (st2 := [.int (Int32.ofInt 0)]) rfl <| zt_sub (z_fn) <| sfM_isLeastRow_38 N   (Int32.ofInt 0) h _ e) (fun _ e => zl hy 2 (pc2 := 38) (lv2 := [(0, .ref l0), (1, .int l1)]) (st2 := [.int (Int32.ofInt 1)]) rfl <| zt_sub (z_fn) <| sfM_isLeastRow_38 N   (Int32.ofInt 1) h _ e)) (fun _ e => zl hy 2 (pc2 := 12) (lv2 := [(0, .ref l0), (1, .int l1)]) (st2 := [.int l1, .ref l0]) rfl <| zx_call hy (as := [.ref l0, .int l1]) (rest := []) (ov := (fun v => some (.int v))) (fun _ => rfl) rfl rfl (Or.inl rfl) rfl rfl (Nat.le_of_ble_eq_true rfl) (Nat.le_of_ble_eq_true rfl) (fun _ e _ => z_rcvT (rfM_turned N l0 l1 h _ e)) (fun _ e => zt_deep (Nat.le_of_ble_eq_true rfl) (sfM_turned N l0 l1 h _ e)) e fun x3 h4 _ e => zx_c0 hy rfl e (fun _ e => zl hy 2 (pc2 := 2) (lv2 := [(1, .int (l1 + Int32.ofInt 1)), (0, .ref l0)]) (st2 := []) rfl <| zt_sub (z_fc rfl (z_fc rfl (z_fn))) <| ih l0 (l1 + Int32.ofInt 1) h4 _ e) (fun _ e => zl hy 1 (pc2 := 19) (lv2 := [(0, .ref l0), (1, .int l1)]) (st2 := [.int (Int32.ofInt 0)]) rfl <| zx_ret hy (v := .int (Int32.ofInt 0)) rfl rfl (by decide) rfl e))
def fM_isLeastRow (N : Nat) (l0 : Nat) (h : zH) : Option (Int32 × zH) := cond (fT h l0 5) (fM_isLeastRow_2 N N  l0 (Int32.ofInt 1) h) none
theorem sfM_isLeastRow {xs : List Int32} (N : Nat) (l0 : Nat) (h : zH) (r : Int32 × zH) (e : fM_isLeastRow N l0 h = some r) : zt xs (2) 164 0 [(0, .ref l0)] [] h 0 0 (zQ cI r) := by
  have hy := mfM_isLeastRow
  unfold fM_isLeastRow at e
  replace e := (cond_some e).2
  exact zl hy 2 (pc2 := 2) (lv2 := [(1, .int (Int32.ofInt 1)), (0, .ref l0)]) (st2 := []) rfl <| zt_sub (z_fc rfl (z_fc rfl (z_fn))) <| sfM_isLeastRow_2 N   N l0 (Int32.ofInt 1) h _ e
theorem rfM_isLeastRow (N : Nat) (l0 : Nat) (h : zH) (r : Int32 × zH) (e : fM_isLeastRow N l0 h = some r) : fT h l0 5 = true := by
  unfold fM_isLeastRow at e
  exact (cond_some e).1
/-- LyndonBenchModel.isBeginning()Z -/
theorem mfM_isBeginning : z_me 165 zc_165 3 [] (some .boolean) := ⟨z_me0 rfl, rfl, rfl, rfl⟩
def fM_isBeginning_92 (N : Nat)  (s0 : Int32) (h : zH) : Option (Int32 × zH) := cond (decide (s0 = Int32.ofInt 0) || decide (s0 = Int32.ofInt 1)) (some (s0, h)) none
theorem sfM_isBeginning_92 {xs : List Int32} (N : Nat)   (s0 : Int32) (h : zH) (r : Int32 × zH) (e : fM_isBeginning_92 N  s0 h = some r) : zt xs (1) 165 92 [] [.int s0] h 0 0 (zQ cI r) := by
  have hy := mfM_isBeginning
  unfold fM_isBeginning_92 at e
  exact zx_retB hy rfl rfl e
def fM_isBeginning_74 (N : Nat) (k2 : Nat → Int32 → zH → Option (Int32 × zH)) (l0 : Nat) (l1 : Int32) (h : zH) : Option (Int32 × zH) := k2 l0 (l1 + Int32.ofInt 1) h
theorem sfM_isBeginning_74 {xs : List Int32} (N : Nat) (k2 : Nat → Int32 → zH → Option (Int32 × zH))  (hk2 : ∀ (l0 : Nat) (l1 : Int32) (h : zH) (r : Int32 × zH), k2 l0 l1 h = some r → zt xs (1) 165 2 [(0, .ref l0), (1, .int l1)] [] h 0 0 (zQ cI r)) (l0 : Nat) (l1 : Int32) (h : zH) (r : Int32 × zH) (e : fM_isBeginning_74 N k2 l0 l1 h = some r) : zt xs (1) 165 74 [(0, .ref l0), (1, .int l1)] [] h 0 0 (zQ cI r) := by
  have hy := mfM_isBeginning
  unfold fM_isBeginning_74 at e
  exact zl hy 2 (pc2 := 2) (lv2 := [(1, .int (l1 + Int32.ofInt 1)), (0, .ref l0)]) (st2 := []) rfl <| zt_sub (z_fc rfl (z_fc rfl (z_fn))) <| hk2 l0 (l1 + Int32.ofInt 1) h _ e
def fM_isBeginning_45 (N : Nat) (k2 : Nat → Int32 → zH → Option (Int32 × zH)) (l0 : Nat) (l1 : Int32) (l2 : Int32) (h : zH) : Option (Int32 × zH) := b1 (fI h l0 5 14) fun x4 => cond (z_cmp .ge (l1 + l2) x4) (fM_isBeginning_74 N k2 l0 l1 h) (b1 (fR h l0 5 8) fun x5 => b1 (fAI h x5 100 (l1 + l2)) fun x6 => b1 (fR h l0 5 8) fun x7 => b1 (fAI h x7 100 l2) fun x8 => cond (z_cmp .ge x6 x8) (fM_isBeginning_74 N k2 l0 l1 h) (some ((Int32.ofInt 0), h)))
theorem sfM_isBeginning_45 {xs : List Int32} (N : Nat) (k2 : Nat → Int32 → zH → Option (Int32 × zH))  (hk2 : ∀ (l0 : Nat) (l1 : Int32) (h : zH) (r : Int32 × zH), k2 l0 l1 h = some r → zt xs (1) 165 2 [(0, .ref l0), (1, .int l1)] [] h 0 0 (zQ cI r)) (l0 : Nat) (l1 : Int32) (l2 : Int32) (h : zH) (r : Int32 × zH) (e : fM_isBeginning_45 N k2 l0 l1 l2 h = some r) : zt xs (1) 165 45 [(0, .ref l0), (1, .int l1), (2, .int l2)] [] h 0 0 (zQ cI r) := by
  have hy := mfM_isBeginning
  unfold fM_isBeginning_45 at e
  exact zl hy 4 (pc2 := 49) (lv2 := [(0, .ref l0), (1, .int l1), (2, .int l2)]) (st2 := [.ref l0, .int (l1 + l2)]) rfl <| zx_gI hy rfl e fun x4 _ e => zx_c hy rfl e (fun _ e => zt_sub (z_fc rfl (z_fc rfl (z_fn))) <| sfM_isBeginning_74 N k2 hk2 l0 l1 h _ e) (fun _ e => zl hy 1 (pc2 := 56) (lv2 := [(0, .ref l0), (1, .int l1), (2, .int l2)]) (st2 := [.ref l0]) rfl <| zx_gR hy rfl e fun x5 _ e => zl hy 3 (pc2 := 62) (lv2 := [(0, .ref l0), (1, .int l1), (2, .int l2)]) (st2 := [.int (l1 + l2), .ref x5]) rfl <| zx_aI hy (j := .iaload) (Or.inl ⟨rfl, rfl⟩) rfl e fun x6 _ e => zl hy 1 (pc2 := 64) (lv2 := [(0, .ref l0), (1, .int l1), (2, .int l2)]) (st2 := [.ref l0, .int x6]) rfl <| zx_gR hy rfl e fun x7 _ e => zl hy 1 (pc2 := 68) (lv2 := [(0, .ref l0), (1, .int l1), (2, .int l2)]) (st2 := [.int l2, .ref x7, .int x6]) rfl <| zx_aI hy (j := .iaload) (Or.inl ⟨rfl, rfl⟩) rfl e fun x8 _ e => zx_c hy rfl e (fun _ e => zt_sub (z_fc rfl (z_fc rfl (z_fn))) <| sfM_isBeginning_74 N k2 hk2 l0 l1 h _ e) (fun _ e => zl hy 1 (pc2 := 73) (lv2 := [(0, .ref l0), (1, .int l1), (2, .int l2)]) (st2 := [.int (Int32.ofInt 0)]) rfl <| zx_ret hy (v := .int (Int32.ofInt 0)) rfl rfl (by decide) rfl e))
def fM_isBeginning_12 (N : Nat) : Nat → (Nat → Int32 → zH → Option (Int32 × zH)) → Nat → Int32 → Int32 → zH → Option (Int32 × zH)
  | 0, _, _, _, _, _ => none
  | n + 1, k2, l0, l1, l2, h => b1 (fI h l0 5 14) fun x3 => cond (z_cmp .ge (l1 + l2) x3) (fM_isBeginning_45 N k2 l0 l1 l2 h) (b1 (fR h l0 5 8) fun x4 => b1 (fAI h x4 100 (l1 + l2)) fun x5 => b1 (fR h l0 5 8) fun x6 => b1 (fAI h x6 100 l2) fun x7 => cond (z_cmp .ne x5 x7) (fM_isBeginning_45 N k2 l0 l1 l2 h) (fM_isBeginning_12 N n k2 l0 l1 (l2 + Int32.ofInt 1) h))
theorem sfM_isBeginning_12 {xs : List Int32} (N : Nat) (k2 : Nat → Int32 → zH → Option (Int32 × zH))  (hk2 : ∀ (l0 : Nat) (l1 : Int32) (h : zH) (r : Int32 × zH), k2 l0 l1 h = some r → zt xs (1) 165 2 [(0, .ref l0), (1, .int l1)] [] h 0 0 (zQ cI r)) : ∀ (n : Nat) (l0 : Nat) (l1 : Int32) (l2 : Int32) (h : zH) (r : Int32 × zH), fM_isBeginning_12 N n k2 l0 l1 l2 h = some r → zt xs (1) 165 12 [(0, .ref l0), (1, .int l1), (2, .int l2)] [] h 0 0 (zQ cI r) := by
  have hy := mfM_isBeginning
  intro n
  induction n with
  | zero =>
    intro l0 l1 l2 h r e
    rw [fM_isBeginning_12] at e
    cases e
  | succ n ih =>
    intro l0 l1 l2 h r e
    rw [fM_isBeginning_12] at e
    exact zl hy 4 (pc2 := 16) (lv2 := [(0, .ref l0), (1, .int l1), (2, .int l2)]) (st2 := [.ref l0, .int (l1 + l2)]) rfl <| zx_gI hy rfl e fun x3 _ e => zx_c hy rfl e (fun _ e => zt_sub (z_fc rfl (z_fc rfl (z_fc rfl (z_fn)))) <| sfM_isBeginning_45 N k2 hk2 l0 l1 l2 h _ e) (fun _ e => zl hy 1 (pc2 := 23) (lv2 := [(0, .ref l0), (1, .int l1), (2, .int l2)]) (st2 := [.ref l0]) rfl <| zx_gR hy rfl e fun x4 _ e => zl hy 3 (pc2 := 29) (lv2 := [(0, .ref l0), (1, .int l1), (2, .int l2)]) (st2 := [.int (l1 + l2), .ref x4]) rfl <| zx_aI hy (j := .iaload) (Or.inl ⟨rfl, rfl⟩) rfl e fun x5 _ e => zl hy 1 (pc2 := 31) (lv2 := [(0, .ref l0), (1, .int l1), (2, .int l2)]) (st2 := [.ref l0, .int x5]) rfl <| zx_gR hy rfl e fun x6 _ e => zl hy 1 (pc2 := 35) (lv2 := [(0, .ref l0), (1, .int l1), (2, .int l2)]) (st2 := [.int l2, .ref x6, .int x5]) rfl <| zx_aI hy (j := .iaload) (Or.inl ⟨rfl, rfl⟩) rfl e fun x7 _ e => zx_c hy rfl e (fun _ e => zt_sub (z_fc rfl (z_fc rfl (z_fc rfl (z_fn)))) <| sfM_isBeginning_45 N k2 hk2 l0 l1 l2 h _ e) (fun _ e => zl hy 2 (pc2 := 12) (lv2 := [(2, .int (l2 + Int32.ofInt 1)), (0, .ref l0), (1, .int l1)]) (st2 := []) rfl <| zt_sub (z_fc rfl (z_fc rfl (z_fc rfl (z_fn)))) <| ih l0 l1 (l2 + Int32.ofInt 1) h _ e))
def fM_isBeginning_2 (N : Nat) : Nat → Nat → Int32 → zH → Option (Int32 × zH)
  | 0, _, _, _ => none
  | n + 1, l0, l1, h => b1 (fI h l0 5 14) fun x1 => cond (z_cmp .ge l1 x1) (b1 (fI h l0 5 14) fun x2 => cond (z_cmp .le x2 (Int32.ofInt 0)) (fM_isBeginning_92 N  (Int32.ofInt 0) h) (fM_isBeginning_92 N  (Int32.ofInt 1) h)) (fM_isBeginning_12 N N (fM_isBeginning_2 N n ) l0 l1 (Int32.ofInt 0) h)
theorem sfM_isBeginning_2 {xs : List Int32} (N : Nat)   : ∀ (n : Nat) (l0 : Nat) (l1 : Int32) (h : zH) (r : Int32 × zH), fM_isBeginning_2 N n  l0 l1 h = some r → zt xs (1) 165 2 [(0, .ref l0), (1, .int l1)] [] h 0 0 (zQ cI r) := by
  have hy := mfM_isBeginning
  intro n
  induction n with
  | zero =>
    intro l0 l1 h r e
    rw [fM_isBeginning_2] at e
    cases e
  | succ n ih =>
    intro l0 l1 h r e
    rw [fM_isBeginning_2] at e
    exact zl hy 2 (pc2 := 4) (lv2 := [(0, .ref l0), (1, .int l1)]) (st2 := [.ref l0, .int l1]) rfl <| zx_gI hy rfl e fun x1 _ e => zx_c hy rfl e (fun _ e => zl hy 1 (pc2 := 81) (lv2 := [(0, .ref l0), (1, .int l1)]) (st2 := [.ref l0]) rfl <| zx_gI hy rfl e fun x2 _ e => zx_c0 hy rfl e (fun _ e => zl hy 1 (pc2 := 92) (lv2 := [(0, .ref l0), (1, .int l1)]) (st2 := [.int (Int32.ofInt 0)]) rfl <| zt_sub (z_fn) <| sfM_isBeginning_92 N   (Int32.ofInt 0) h _ e) (fun _ e => zl hy 2 (pc2 := 92) (lv2 := [(0, .ref l0), (1, .int l1)]) (st2 := [.int (Int32.ofInt 1)]) rfl <| zt_sub (z_fn) <| sfM_isBeginning_92 N   (Int32.ofInt 1) h _ e)) (fun _ e => zl hy 2 (pc2 := 12) (lv2 := [(2, .int (Int32.ofInt 0)), (0, .ref l0), (1, .int l1)]) (st2 := []) rfl <| zt_sub (z_fc rfl (z_fc rfl (z_fc rfl (z_fn)))) <| sfM_isBeginning_12 N (fM_isBeginning_2 N n ) ih N l0 l1 (Int32.ofInt 0) h _ e)
def fM_isBeginning (N : Nat) (l0 : Nat) (h : zH) : Option (Int32 × zH) := cond (fT h l0 5) (fM_isBeginning_2 N N  l0 (Int32.ofInt 1) h) none
theorem sfM_isBeginning {xs : List Int32} (N : Nat) (l0 : Nat) (h : zH) (r : Int32 × zH) (e : fM_isBeginning N l0 h = some r) : zt xs (1) 165 0 [(0, .ref l0)] [] h 0 0 (zQ cI r) := by
  have hy := mfM_isBeginning
  unfold fM_isBeginning at e
  replace e := (cond_some e).2
  exact zl hy 2 (pc2 := 2) (lv2 := [(1, .int (Int32.ofInt 1)), (0, .ref l0)]) (st2 := []) rfl <| zt_sub (z_fc rfl (z_fc rfl (z_fn))) <| sfM_isBeginning_2 N   N l0 (Int32.ofInt 1) h _ e
theorem rfM_isBeginning (N : Nat) (l0 : Nat) (h : zH) (r : Int32 × zH) (e : fM_isBeginning N l0 h = some r) : fT h l0 5 = true := by
  unfold fM_isBeginning at e
  exact (cond_some e).1
/-- LyndonBenchModel.why()I -/
theorem mfM_why : z_me 166 zc_166 1 [] (some .int) := ⟨z_me0 rfl, rfl, rfl, rfl⟩
def fM_why_34 (N : Nat)  (s0 : Int32) (h : zH) : Option (Int32 × zH) := some (s0, h)
theorem sfM_why_34 {xs : List Int32} (N : Nat)   (s0 : Int32) (h : zH) (r : Int32 × zH) (e : fM_why_34 N  s0 h = some r) : zt xs (3) 166 34 [] [.int s0] h 0 0 (zQ cI r) := by
  have hy := mfM_why
  unfold fM_why_34 at e
  exact zx_ret hy rfl rfl rfl rfl e
def fM_why (N : Nat) (l0 : Nat) (h : zH) : Option (Int32 × zH) := cond (fT h l0 5) (b2 (fM_loads N l0 h) fun _ h2 => b1 (fI h2 l0 5 14) fun x3 => cond (z_cmp .ne x3 (Int32.ofInt 0)) (b2 (fM_isPrimitiveRow N l0 h2) fun x4 h5 => cond (z_cmp .ne x4 (Int32.ofInt 0)) (b2 (fM_isLeastRow N l0 h5) fun x6 h7 => cond (z_cmp .eq x6 (Int32.ofInt 0)) (fM_why_34 N  (Int32.ofInt 3) h7) (fM_why_34 N  (Int32.ofInt 0) h7)) (some ((Int32.ofInt 2), h5))) (some ((Int32.ofInt 1), h2))) none
theorem sfM_why {xs : List Int32} (N : Nat) (l0 : Nat) (h : zH) (r : Int32 × zH) (e : fM_why N l0 h = some r) : zt xs (3) 166 0 [(0, .ref l0)] [] h 0 0 (zQ cI r) := by
  have hy := mfM_why
  unfold fM_why at e
  replace e := (cond_some e).2
  exact zl hy 1 (pc2 := 1) (lv2 := [(0, .ref l0)]) (st2 := [.ref l0]) rfl <| zx_call hy (as := [.ref l0]) (rest := []) (ov := (fun _ => none)) (fun _ => rfl) rfl rfl (Or.inl rfl) rfl rfl (Nat.le_of_ble_eq_true rfl) (Nat.le_of_ble_eq_true rfl) (fun _ e _ => z_rcvT (rfM_loads N l0 h _ e)) (fun _ e => zt_deep (Nat.le_of_ble_eq_true rfl) (sfM_loads N l0 h _ e)) e fun _ h2 _ e => zl hy 1 (pc2 := 5) (lv2 := [(0, .ref l0)]) (st2 := [.ref l0]) rfl <| zx_gI hy rfl e fun x3 _ e => zx_c0 hy rfl e (fun _ e => zl hy 1 (pc2 := 14) (lv2 := [(0, .ref l0)]) (st2 := [.ref l0]) rfl <| zx_call hy (as := [.ref l0]) (rest := []) (ov := (fun v => some (.int v))) (fun _ => rfl) rfl rfl (Or.inl rfl) rfl rfl (Nat.le_of_ble_eq_true rfl) (Nat.le_of_ble_eq_true rfl) (fun _ e _ => z_rcvT (rfM_isPrimitiveRow N l0 h2 _ e)) (fun _ e => zt_deep (Nat.le_of_ble_eq_true rfl) (sfM_isPrimitiveRow N l0 h2 _ e)) e fun x4 h5 _ e => zx_c0 hy rfl e (fun _ e => zl hy 1 (pc2 := 23) (lv2 := [(0, .ref l0)]) (st2 := [.ref l0]) rfl <| zx_call hy (as := [.ref l0]) (rest := []) (ov := (fun v => some (.int v))) (fun _ => rfl) rfl rfl (Or.inl rfl) rfl rfl (Nat.le_of_ble_eq_true rfl) (Nat.le_of_ble_eq_true rfl) (fun _ e _ => z_rcvT (rfM_isLeastRow N l0 h5 _ e)) (fun _ e => zt_deep (Nat.le_of_ble_eq_true rfl) (sfM_isLeastRow N l0 h5 _ e)) e fun x6 h7 _ e => zx_c0 hy rfl e (fun _ e => zl hy 1 (pc2 := 34) (lv2 := [(0, .ref l0)]) (st2 := [.int (Int32.ofInt 3)]) rfl <| zt_sub (z_fn) <| sfM_why_34 N   (Int32.ofInt 3) h7 _ e) (fun _ e => zl hy 2 (pc2 := 34) (lv2 := [(0, .ref l0)]) (st2 := [.int (Int32.ofInt 0)]) rfl <| zt_sub (z_fn) <| sfM_why_34 N   (Int32.ofInt 0) h7 _ e)) (fun _ e => zl hy 1 (pc2 := 21) (lv2 := [(0, .ref l0)]) (st2 := [.int (Int32.ofInt 2)]) rfl <| zx_ret hy rfl rfl rfl rfl e)) (fun _ e => zl hy 1 (pc2 := 12) (lv2 := [(0, .ref l0)]) (st2 := [.int (Int32.ofInt 1)]) rfl <| zx_ret hy rfl rfl rfl rfl e)
theorem rfM_why (N : Nat) (l0 : Nat) (h : zH) (r : Int32 × zH) (e : fM_why N l0 h = some r) : fT h l0 5 = true := by
  unfold fM_why at e
  exact (cond_some e).1
/-- LyndonBenchModel.period()I -/
theorem mfM_period : z_me 167 zc_167 3 [] (some .int) := ⟨z_me0 rfl, rfl, rfl, rfl⟩
def fM_period_53 (N : Nat) (k2 : Nat → Int32 → zH → Option (Int32 × zH)) (l0 : Nat) (l1 : Int32) (l2 : Int32) (h : zH) : Option (Int32 × zH) := b1 (fR h l0 5 0) fun x5 => b1 (fAI h x5 100 (Int32.ofInt 1)) fun x6 => cond (z_cmp .ne (l2 + l1) x6) (k2 l0 (l1 + Int32.ofInt 1) h) (some (l1, h))
theorem sfM_period_53 {xs : List Int32} (N : Nat) (k2 : Nat → Int32 → zH → Option (Int32 × zH))  (hk2 : ∀ (l0 : Nat) (l1 : Int32) (h : zH) (r : Int32 × zH), k2 l0 l1 h = some r → zt xs (1) 167 2 [(0, .ref l0), (1, .int l1)] [] h 0 0 (zQ cI r)) (l0 : Nat) (l1 : Int32) (l2 : Int32) (h : zH) (r : Int32 × zH) (e : fM_period_53 N k2 l0 l1 l2 h = some r) : zt xs (1) 167 53 [(0, .ref l0), (1, .int l1), (2, .int l2)] [] h 0 0 (zQ cI r) := by
  have hy := mfM_period
  unfold fM_period_53 at e
  exact zl hy 4 (pc2 := 57) (lv2 := [(0, .ref l0), (1, .int l1), (2, .int l2)]) (st2 := [.ref l0, .int (l2 + l1)]) rfl <| zx_gR hy rfl e fun x5 _ e => zl hy 1 (pc2 := 61) (lv2 := [(0, .ref l0), (1, .int l1), (2, .int l2)]) (st2 := [.int (Int32.ofInt 1), .ref x5, .int (l2 + l1)]) rfl <| zx_aI hy (j := .iaload) (Or.inl ⟨rfl, rfl⟩) rfl e fun x6 _ e => zx_c hy rfl e (fun _ e => zl hy 2 (pc2 := 2) (lv2 := [(1, .int (l1 + Int32.ofInt 1)), (0, .ref l0), (2, .int l2)]) (st2 := []) rfl <| zt_sub (z_fc rfl (z_fc rfl (z_fn))) <| hk2 l0 (l1 + Int32.ofInt 1) h _ e) (fun _ e => zl hy 1 (pc2 := 66) (lv2 := [(0, .ref l0), (1, .int l1), (2, .int l2)]) (st2 := [.int l1]) rfl <| zx_ret hy rfl rfl rfl rfl e)
def fM_period_14 (N : Nat) : Nat → (Nat → Int32 → zH → Option (Int32 × zH)) → Nat → Int32 → Int32 → zH → Option (Int32 × zH)
  | 0, _, _, _, _, _ => none
  | n + 1, k2, l0, l1, l2, h => b1 (fR h l0 5 0) fun x3 => b1 (fAI h x3 100 (Int32.ofInt 1)) fun x4 => cond (z_cmp .ge (l2 + l1) x4) (fM_period_53 N k2 l0 l1 l2 h) (b1 (fR h l0 5 0) fun x5 => b1 (fAI h x5 100 ((Int32.ofInt 3) + l2)) fun x6 => b1 (fR h l0 5 0) fun x7 => b1 (fAI h x7 100 (((Int32.ofInt 3) + l2) + l1)) fun x8 => cond (z_cmp .ne x6 x8) (fM_period_53 N k2 l0 l1 l2 h) (fM_period_14 N n k2 l0 l1 (l2 + Int32.ofInt 1) h))
theorem sfM_period_14 {xs : List Int32} (N : Nat) (k2 : Nat → Int32 → zH → Option (Int32 × zH))  (hk2 : ∀ (l0 : Nat) (l1 : Int32) (h : zH) (r : Int32 × zH), k2 l0 l1 h = some r → zt xs (1) 167 2 [(0, .ref l0), (1, .int l1)] [] h 0 0 (zQ cI r)) : ∀ (n : Nat) (l0 : Nat) (l1 : Int32) (l2 : Int32) (h : zH) (r : Int32 × zH), fM_period_14 N n k2 l0 l1 l2 h = some r → zt xs (1) 167 14 [(0, .ref l0), (1, .int l1), (2, .int l2)] [] h 0 0 (zQ cI r) := by
  have hy := mfM_period
  intro n
  induction n with
  | zero =>
    intro l0 l1 l2 h r e
    rw [fM_period_14] at e
    cases e
  | succ n ih =>
    intro l0 l1 l2 h r e
    rw [fM_period_14] at e
    exact zl hy 4 (pc2 := 18) (lv2 := [(0, .ref l0), (1, .int l1), (2, .int l2)]) (st2 := [.ref l0, .int (l2 + l1)]) rfl <| zx_gR hy rfl e fun x3 _ e => zl hy 1 (pc2 := 22) (lv2 := [(0, .ref l0), (1, .int l1), (2, .int l2)]) (st2 := [.int (Int32.ofInt 1), .ref x3, .int (l2 + l1)]) rfl <| zx_aI hy (j := .iaload) (Or.inl ⟨rfl, rfl⟩) rfl e fun x4 _ e => zx_c hy rfl e (fun _ e => zt_sub (z_fc rfl (z_fc rfl (z_fc rfl (z_fn)))) <| sfM_period_53 N k2 hk2 l0 l1 l2 h _ e) (fun _ e => zl hy 1 (pc2 := 27) (lv2 := [(0, .ref l0), (1, .int l1), (2, .int l2)]) (st2 := [.ref l0]) rfl <| zx_gR hy rfl e fun x5 _ e => zl hy 3 (pc2 := 33) (lv2 := [(0, .ref l0), (1, .int l1), (2, .int l2)]) (st2 := [.int ((Int32.ofInt 3) + l2), .ref x5]) rfl <| zx_aI hy (j := .iaload) (Or.inl ⟨rfl, rfl⟩) rfl e fun x6 _ e => zl hy 1 (pc2 := 35) (lv2 := [(0, .ref l0), (1, .int l1), (2, .int l2)]) (st2 := [.ref l0, .int x6]) rfl <| zx_gR hy rfl e fun x7 _ e => zl hy 5 (pc2 := 43) (lv2 := [(0, .ref l0), (1, .int l1), (2, .int l2)]) (st2 := [.int (((Int32.ofInt 3) + l2) + l1), .ref x7, .int x6]) rfl <| zx_aI hy (j := .iaload) (Or.inl ⟨rfl, rfl⟩) rfl e fun x8 _ e => zx_c hy rfl e (fun _ e => zt_sub (z_fc rfl (z_fc rfl (z_fc rfl (z_fn)))) <| sfM_period_53 N k2 hk2 l0 l1 l2 h _ e) (fun _ e => zl hy 2 (pc2 := 14) (lv2 := [(2, .int (l2 + Int32.ofInt 1)), (0, .ref l0), (1, .int l1)]) (st2 := []) rfl <| zt_sub (z_fc rfl (z_fc rfl (z_fc rfl (z_fn)))) <| ih l0 l1 (l2 + Int32.ofInt 1) h _ e))
def fM_period_2 (N : Nat) : Nat → Nat → Int32 → zH → Option (Int32 × zH)
  | 0, _, _, _ => none
  | n + 1, l0, l1, h => b1 (fR h l0 5 0) fun x1 => b1 (fAI h x1 100 (Int32.ofInt 1)) fun x2 => cond (z_cmp .gt l1 x2) (some ((Int32.ofInt 0), h)) (fM_period_14 N N (fM_period_2 N n ) l0 l1 (Int32.ofInt 0) h)
theorem sfM_period_2 {xs : List Int32} (N : Nat)   : ∀ (n : Nat) (l0 : Nat) (l1 : Int32) (h : zH) (r : Int32 × zH), fM_period_2 N n  l0 l1 h = some r → zt xs (1) 167 2 [(0, .ref l0), (1, .int l1)] [] h 0 0 (zQ cI r) := by
  have hy := mfM_period
  intro n
  induction n with
  | zero =>
    intro l0 l1 h r e
    rw [fM_period_2] at e
    cases e
  | succ n ih =>
    intro l0 l1 h r e
    rw [fM_period_2] at e
    exact zl hy 2 (pc2 := 4) (lv2 := [(0, .ref l0), (1, .int l1)]) (st2 := [.ref l0, .int l1]) rfl <| zx_gR hy rfl e fun x1 _ e => zl hy 1 (pc2 := 8) (lv2 := [(0, .ref l0), (1, .int l1)]) (st2 := [.int (Int32.ofInt 1), .ref x1, .int l1]) rfl <| zx_aI hy (j := .iaload) (Or.inl ⟨rfl, rfl⟩) rfl e fun x2 _ e => zx_c hy rfl e (fun _ e => zl hy 1 (pc2 := 74) (lv2 := [(0, .ref l0), (1, .int l1)]) (st2 := [.int (Int32.ofInt 0)]) rfl <| zx_ret hy rfl rfl rfl rfl e) (fun _ e => zl hy 2 (pc2 := 14) (lv2 := [(2, .int (Int32.ofInt 0)), (0, .ref l0), (1, .int l1)]) (st2 := []) rfl <| zt_sub (z_fc rfl (z_fc rfl (z_fc rfl (z_fn)))) <| sfM_period_14 N (fM_period_2 N n ) ih N l0 l1 (Int32.ofInt 0) h _ e)
def fM_period (N : Nat) (l0 : Nat) (h : zH) : Option (Int32 × zH) := cond (fT h l0 5) (fM_period_2 N N  l0 (Int32.ofInt 1) h) none
theorem sfM_period {xs : List Int32} (N : Nat) (l0 : Nat) (h : zH) (r : Int32 × zH) (e : fM_period N l0 h = some r) : zt xs (1) 167 0 [(0, .ref l0)] [] h 0 0 (zQ cI r) := by
  have hy := mfM_period
  unfold fM_period at e
  replace e := (cond_some e).2
  exact zl hy 2 (pc2 := 2) (lv2 := [(1, .int (Int32.ofInt 1)), (0, .ref l0)]) (st2 := []) rfl <| zt_sub (z_fc rfl (z_fc rfl (z_fn))) <| sfM_period_2 N   N l0 (Int32.ofInt 1) h _ e
theorem rfM_period (N : Nat) (l0 : Nat) (h : zH) (r : Int32 × zH) (e : fM_period N l0 h = some r) : fT h l0 5 = true := by
  unfold fM_period at e
  exact (cond_some e).1
/-- LyndonBenchModel.rotations(II)I -/
theorem mfM_rotations : z_me 168 zc_168 5 [] (some .int) := ⟨z_me0 rfl, rfl, rfl, rfl⟩
def fM_rotations_2 (N : Nat) : Nat → Nat → Int32 → Int32 → Int32 → zH → Option (Int32 × zH)
  | 0, _, _, _, _, _ => none
  | n + 1, l0, l1, l2, l3, h => b1 (fR h l0 5 0) fun x1 => b1 (fAI h x1 100 (Int32.ofInt 1)) fun x2 => cond (z_cmp .ge l3 x2) (some ((Int32.ofInt 0), h)) (b1 (fR h l0 5 0) fun x3 => b1 (fR h l0 5 0) fun x4 => b1 (fAI h x4 100 (Int32.ofInt 1)) fun x5 => (if x5 = Int32.ofInt 0 then none else b1 (fAI h x3 100 ((Int32.ofInt 3) + ((l3 + l1) - (l3 + l1) / x5 * x5))) fun x7 => b1 (fR h l0 5 0) fun x8 => b1 (fR h l0 5 0) fun x9 => b1 (fAI h x9 100 (Int32.ofInt 1)) fun x10 => (if x10 = Int32.ofInt 0 then none else b1 (fAI h x8 100 ((Int32.ofInt 3) + ((l3 + l2) - (l3 + l2) / x10 * x10))) fun x12 => cond (z_cmp .eq (x7 - x12) (Int32.ofInt 0)) (fM_rotations_2 N n  l0 l1 l2 (l3 + Int32.ofInt 1) h) (some ((x7 - x12), h)))))
theorem sfM_rotations_2 {xs : List Int32} (N : Nat)   : ∀ (n : Nat) (l0 : Nat) (l1 : Int32) (l2 : Int32) (l3 : Int32) (h : zH) (r : Int32 × zH), fM_rotations_2 N n  l0 l1 l2 l3 h = some r → zt xs (1) 168 2 [(0, .ref l0), (1, .int l1), (2, .int l2), (3, .int l3)] [] h 0 0 (zQ cI r) := by
  have hy := mfM_rotations
  intro n
  induction n with
  | zero =>
    intro l0 l1 l2 l3 h r e
    rw [fM_rotations_2] at e
    cases e
  | succ n ih =>
    intro l0 l1 l2 l3 h r e
    rw [fM_rotations_2] at e
    exact zl hy 2 (pc2 := 4) (lv2 := [(0, .ref l0), (1, .int l1), (2, .int l2), (3, .int l3)]) (st2 := [.ref l0, .int l3]) rfl <| zx_gR hy rfl e fun x1 _ e => zl hy 1 (pc2 := 8) (lv2 := [(0, .ref l0), (1, .int l1), (2, .int l2), (3, .int l3)]) (st2 := [.int (Int32.ofInt 1), .ref x1, .int l3]) rfl <| zx_aI hy (j := .iaload) (Or.inl ⟨rfl, rfl⟩) rfl e fun x2 _ e => zx_c hy rfl e (fun _ e => zl hy 1 (pc2 := 64) (lv2 := [(0, .ref l0), (1, .int l1), (2, .int l2), (3, .int l3)]) (st2 := [.int (Int32.ofInt 0)]) rfl <| zx_ret hy rfl rfl rfl rfl e) (fun _ e => zl hy 1 (pc2 := 13) (lv2 := [(0, .ref l0), (1, .int l1), (2, .int l2), (3, .int l3)]) (st2 := [.ref l0]) rfl <| zx_gR hy rfl e fun x3 _ e => zl hy 5 (pc2 := 21) (lv2 := [(0, .ref l0), (1, .int l1), (2, .int l2), (3, .int l3)]) (st2 := [.ref l0, .int (l3 + l1), .int (Int32.ofInt 3), .ref x3]) rfl <| zx_gR hy rfl e fun x4 _ e => zl hy 1 (pc2 := 25) (lv2 := [(0, .ref l0), (1, .int l1), (2, .int l2), (3, .int l3)]) (st2 := [.int (Int32.ofInt 1), .ref x4, .int (l3 + l1), .int (Int32.ofInt 3), .ref x3]) rfl <| zx_aI hy (j := .iaload) (Or.inl ⟨rfl, rfl⟩) rfl e fun x5 _ e => zx_rem hy (G := fun _ => b1 (fAI h x3 100 ((Int32.ofInt 3) + ((l3 + l1) - (l3 + l1) / x5 * x5))) fun x7 => b1 (fR h l0 5 0) fun x8 => b1 (fR h l0 5 0) fun x9 => b1 (fAI h x9 100 (Int32.ofInt 1)) fun x10 => (if x10 = Int32.ofInt 0 then none else b1 (fAI h x8 100 ((Int32.ofInt 3) + ((l3 + l2) - (l3 + l2) / x10 * x10))) fun x12 => cond (z_cmp .eq (x7 - x12) (Int32.ofInt 0)) (fM_rotations_2 N n  l0 l1 l2 (l3 + Int32.ofInt 1) h) (some ((x7 - x12), h)))) rfl e fun _ e => zl hy 1 (pc2 := 28) (lv2 := [(0, .ref l0), (1, .int l1), (2, .int l2), (3, .int l3)]) (st2 := [.int ((Int32.ofInt 3) + ((l3 + l1) - (l3 + l1) / x5 * x5)), .ref x3]) rfl <| zx_aI hy (j := .iaload) (Or.inl ⟨rfl, rfl⟩) rfl e fun x7 _ e => zl hy 1 (pc2 := 30) (lv2 := [(0, .ref l0), (1, .int l1), (2, .int l2), (3, .int l3)]) (st2 := [.ref l0, .int x7]) rfl <| zx_gR hy rfl e fun x8 _ e => zl hy 5 (pc2 := 38) (lv2 := [(0, .ref l0), (1, .int l1), (2, .int l2), (3, .int l3)]) (st2 := [.ref l0, .int (l3 + l2), .int (Int32.ofInt 3), .ref x8, .int x7]) rfl <| zx_gR hy rfl e fun x9 _ e => zl hy 1 (pc2 := 42) (lv2 := [(0, .ref l0), (1, .int l1), (2, .int l2), (3, .int l3)]) (st2 := [.int (Int32.ofInt 1), .ref x9, .int (l3 + l2), .int (Int32.ofInt 3), .ref x8, .int x7]) rfl <| zx_aI hy (j := .iaload) (Or.inl ⟨rfl, rfl⟩) rfl e fun x10 _ e => zx_rem hy (G := fun _ => b1 (fAI h x8 100 ((Int32.ofInt 3) + ((l3 + l2) - (l3 + l2) / x10 * x10))) fun x12 => cond (z_cmp .eq (x7 - x12) (Int32.ofInt 0)) (fM_rotations_2 N n  l0 l1 l2 (l3 + Int32.ofInt 1) h) (some ((x7 - x12), h))) rfl e fun _ e => zl hy 1 (pc2 := 45) (lv2 := [(0, .ref l0), (1, .int l1), (2, .int l2), (3, .int l3)]) (st2 := [.int ((Int32.ofInt 3) + ((l3 + l2) - (l3 + l2) / x10 * x10)), .ref x8, .int x7]) rfl <| zx_aI hy (j := .iaload) (Or.inl ⟨rfl, rfl⟩) rfl e fun x12 _ e => zl hy 3 (pc2 := 51) (lv2 := [(4, .int (x7 - x12)), (0, .ref l0), (1, .int l1), (2, .int l2), (3, .int l3)]) (st2 := [.int (x7 - x12)]) rfl <| zx_c0 hy rfl e (fun _ e => zl hy 2 (pc2 := 2) (lv2 := [(3, .int (l3 + Int32.ofInt 1)), (4, .int (x7 - x12)), (0, .ref l0), (1, .int l1), (2, .int l2)]) (st2 := []) rfl <| zt_sub (z_fc rfl (z_fc rfl (z_fc rfl (z_fc rfl (z_fn))))) <| ih l0 l1 l2 (l3 + Int32.ofInt 1) h _ e) (fun _ e => zl hy 1 (pc2 := 56) (lv2 := [(4, .int (x7 - x12)), (0, .ref l0), (1, .int l1), (2, .int l2), (3, .int l3)]) (st2 := [.int (x7 - x12)]) rfl <| zx_ret hy rfl rfl rfl rfl e))
def fM_rotations (N : Nat) (l0 : Nat) (l1 : Int32) (l2 : Int32) (h : zH) : Option (Int32 × zH) := cond (fT h l0 5) (fM_rotations_2 N N  l0 l1 l2 (Int32.ofInt 0) h) none
theorem sfM_rotations {xs : List Int32} (N : Nat) (l0 : Nat) (l1 : Int32) (l2 : Int32) (h : zH) (r : Int32 × zH) (e : fM_rotations N l0 l1 l2 h = some r) : zt xs (1) 168 0 [(0, .ref l0), (1, .int l1), (2, .int l2)] [] h 0 0 (zQ cI r) := by
  have hy := mfM_rotations
  unfold fM_rotations at e
  replace e := (cond_some e).2
  exact zl hy 2 (pc2 := 2) (lv2 := [(3, .int (Int32.ofInt 0)), (0, .ref l0), (1, .int l1), (2, .int l2)]) (st2 := []) rfl <| zt_sub (z_fc rfl (z_fc rfl (z_fc rfl (z_fc rfl (z_fn))))) <| sfM_rotations_2 N   N l0 l1 l2 (Int32.ofInt 0) h _ e
theorem rfM_rotations (N : Nat) (l0 : Nat) (l1 : Int32) (l2 : Int32) (h : zH) (r : Int32 × zH) (e : fM_rotations N l0 l1 l2 h = some r) : fT h l0 5 = true := by
  unfold fM_rotations at e
  exact (cond_some e).1
/-- LyndonBenchModel.least()I -/
theorem mfM_least : z_me 169 zc_169 3 [] (some .int) := ⟨z_me0 rfl, rfl, rfl, rfl⟩
def fM_least_28 (N : Nat) (k4 : Nat → Int32 → Int32 → zH → Option (Int32 × zH)) (l0 : Nat) (l2 : Int32) (s0 : Int32) (h : zH) : Option (Int32 × zH) := k4 l0 s0 (l2 + Int32.ofInt 1) h
theorem sfM_least_28 {xs : List Int32} (N : Nat) (k4 : Nat → Int32 → Int32 → zH → Option (Int32 × zH))  (hk4 : ∀ (l0 : Nat) (l1 : Int32) (l2 : Int32) (h : zH) (r : Int32 × zH), k4 l0 l1 l2 h = some r → zt xs (2) 169 4 [(0, .ref l0), (1, .int l1), (2, .int l2)] [] h 0 0 (zQ cI r)) (l0 : Nat) (l2 : Int32) (s0 : Int32) (h : zH) (r : Int32 × zH) (e : fM_least_28 N k4 l0 l2 s0 h = some r) : zt xs (2) 169 28 [(0, .ref l0), (2, .int l2)] [.int s0] h 0 0 (zQ cI r) := by
  have hy := mfM_least
  unfold fM_least_28 at e
  exact zl hy 3 (pc2 := 4) (lv2 := [(2, .int (l2 + Int32.ofInt 1)), (1, .int s0), (0, .ref l0)]) (st2 := []) rfl <| zt_sub (z_fc rfl (z_fc rfl (z_fc rfl (z_fn)))) <| hk4 l0 s0 (l2 + Int32.ofInt 1) h _ e
def fM_least_4 (N : Nat) : Nat → Nat → Int32 → Int32 → zH → Option (Int32 × zH)
  | 0, _, _, _, _ => none
  | n + 1, l0, l1, l2, h => b1 (fR h l0 5 0) fun x1 => b1 (fAI h x1 100 (Int32.ofInt 1)) fun x2 => cond (z_cmp .ge l2 x2) (some (l1, h)) (b2 (fM_rotations N l0 l2 l1 h) fun x3 h4 => cond (z_cmp .ge x3 (Int32.ofInt 0)) (fM_least_28 N (fM_least_4 N n ) l0 l2 l1 h4) (fM_least_28 N (fM_least_4 N n ) l0 l2 l2 h4))
theorem sfM_least_4 {xs : List Int32} (N : Nat)   : ∀ (n : Nat) (l0 : Nat) (l1 : Int32) (l2 : Int32) (h : zH) (r : Int32 × zH), fM_least_4 N n  l0 l1 l2 h = some r → zt xs (2) 169 4 [(0, .ref l0), (1, .int l1), (2, .int l2)] [] h 0 0 (zQ cI r) := by
  have hy := mfM_least
  intro n
  induction n with
  | zero =>
    intro l0 l1 l2 h r e
    rw [fM_least_4] at e
    cases e
  | succ n ih =>
    intro l0 l1 l2 h r e
    rw [fM_least_4] at e
    exact zl hy 2 (pc2 := 6) (lv2 := [(0, .ref l0), (1, .int l1), (2, .int l2)]) (st2 := [.ref l0, .int l2]) rfl <| zx_gR hy rfl e fun x1 _ e => zl hy 1 (pc2 := 10) (lv2 := [(0, .ref l0), (1, .int l1), (2, .int l2)]) (st2 := [.int (Int32.ofInt 1), .ref x1, .int l2]) rfl <| zx_aI hy (j := .iaload) (Or.inl ⟨rfl, rfl⟩) rfl e fun x2 _ e => zx_c hy rfl e (fun _ e => zl hy 1 (pc2 := 36) (lv2 := [(0, .ref l0), (1, .int l1), (2, .int l2)]) (st2 := [.int l1]) rfl <| zx_ret hy rfl rfl rfl rfl e) (fun _ e => zl hy 3 (pc2 := 17) (lv2 := [(0, .ref l0), (1, .int l1), (2, .int l2)]) (st2 := [.int l1, .int l2, .ref l0]) rfl <| zx_call hy (as := [.ref l0, .int l2, .int l1]) (rest := []) (ov := (fun v => some (.int v))) (fun _ => rfl) rfl rfl (Or.inl rfl) rfl rfl (Nat.le_of_ble_eq_true rfl) (Nat.le_of_ble_eq_true rfl) (fun _ e _ => z_rcvT (rfM_rotations N l0 l2 l1 h _ e)) (fun _ e => zt_deep (Nat.le_of_ble_eq_true rfl) (sfM_rotations N l0 l2 l1 h _ e)) e fun x3 h4 _ e => zx_c0 hy rfl e (fun _ e => zl hy 1 (pc2 := 28) (lv2 := [(0, .ref l0), (1, .int l1), (2, .int l2)]) (st2 := [.int l1]) rfl <| zt_sub (z_fc rfl (z_fc rfl (z_fn))) <| sfM_least_28 N (fM_least_4 N n ) ih l0 l2 l1 h4 _ e) (fun _ e => zl hy 2 (pc2 := 28) (lv2 := [(0, .ref l0), (1, .int l1), (2, .int l2)]) (st2 := [.int l2]) rfl <| zt_sub (z_fc rfl (z_fc rfl (z_fn))) <| sfM_least_28 N (fM_least_4 N n ) ih l0 l2 l2 h4 _ e))
def fM_least (N : Nat) (l0 : Nat) (h : zH) : Option (Int32 × zH) := cond (fT h l0 5) (fM_least_4 N N  l0 (Int32.ofInt 0) (Int32.ofInt 1) h) none
theorem sfM_least {xs : List Int32} (N : Nat) (l0 : Nat) (h : zH) (r : Int32 × zH) (e : fM_least N l0 h = some r) : zt xs (2) 169 0 [(0, .ref l0)] [] h 0 0 (zQ cI r) := by
  have hy := mfM_least
  unfold fM_least at e
  replace e := (cond_some e).2
  exact zl hy 4 (pc2 := 4) (lv2 := [(2, .int (Int32.ofInt 1)), (1, .int (Int32.ofInt 0)), (0, .ref l0)]) (st2 := []) rfl <| zt_sub (z_fc rfl (z_fc rfl (z_fc rfl (z_fn)))) <| sfM_least_4 N   N l0 (Int32.ofInt 0) (Int32.ofInt 1) h _ e
theorem rfM_least (N : Nat) (l0 : Nat) (h : zH) (r : Int32 × zH) (e : fM_least N l0 h = some r) : fT h l0 5 = true := by
  unfold fM_least at e
  exact (cond_some e).1
/-- LyndonBenchModel.suffix(I)I -/
theorem mfM_suffix : z_me 170 zc_170 4 [] (some .int) := ⟨z_me0 rfl, rfl, rfl, rfl⟩
def fM_suffix_52 (N : Nat) (k4 : Nat → Int32 → Int32 → Int32 → zH → Option (Int32 × zH)) (l0 : Nat) (l1 : Int32) (l2 : Int32) (l3 : Int32) (h : zH) : Option (Int32 × zH) := k4 l0 l1 l2 (l3 + Int32.ofInt 1) h
theorem sfM_suffix_52 {xs : List Int32} (N : Nat) (k4 : Nat → Int32 → Int32 → Int32 → zH → Option (Int32 × zH))  (hk4 : ∀ (l0 : Nat) (l1 : Int32) (l2 : Int32) (l3 : Int32) (h : zH) (r : Int32 × zH), k4 l0 l1 l2 l3 h = some r → zt xs (2) 170 4 [(0, .ref l0), (1, .int l1), (2, .int l2), (3, .int l3)] [] h 0 0 (zQ cI r)) (l0 : Nat) (l1 : Int32) (l2 : Int32) (l3 : Int32) (h : zH) (r : Int32 × zH) (e : fM_suffix_52 N k4 l0 l1 l2 l3 h = some r) : zt xs (2) 170 52 [(0, .ref l0), (1, .int l1), (2, .int l2), (3, .int l3)] [] h 0 0 (zQ cI r) := by
  have hy := mfM_suffix
  unfold fM_suffix_52 at e
  exact zl hy 2 (pc2 := 4) (lv2 := [(3, .int (l3 + Int32.ofInt 1)), (0, .ref l0), (1, .int l1), (2, .int l2)]) (st2 := []) rfl <| zt_sub (z_fc rfl (z_fc rfl (z_fc rfl (z_fc rfl (z_fn))))) <| hk4 l0 l1 l2 (l3 + Int32.ofInt 1) h _ e
def fM_suffix_50 (N : Nat) (k4 : Nat → Int32 → Int32 → Int32 → zH → Option (Int32 × zH)) (l0 : Nat) (l1 : Int32) (l3 : Int32) (h : zH) : Option (Int32 × zH) := fM_suffix_52 N k4 l0 l1 l3 l3 h
theorem sfM_suffix_50 {xs : List Int32} (N : Nat) (k4 : Nat → Int32 → Int32 → Int32 → zH → Option (Int32 × zH))  (hk4 : ∀ (l0 : Nat) (l1 : Int32) (l2 : Int32) (l3 : Int32) (h : zH) (r : Int32 × zH), k4 l0 l1 l2 l3 h = some r → zt xs (2) 170 4 [(0, .ref l0), (1, .int l1), (2, .int l2), (3, .int l3)] [] h 0 0 (zQ cI r)) (l0 : Nat) (l1 : Int32) (l3 : Int32) (h : zH) (r : Int32 × zH) (e : fM_suffix_50 N k4 l0 l1 l3 h = some r) : zt xs (2) 170 50 [(0, .ref l0), (1, .int l1), (3, .int l3)] [] h 0 0 (zQ cI r) := by
  have hy := mfM_suffix
  unfold fM_suffix_50 at e
  exact zl hy 2 (pc2 := 52) (lv2 := [(2, .int l3), (0, .ref l0), (1, .int l1), (3, .int l3)]) (st2 := []) rfl <| zt_sub (z_fc rfl (z_fc rfl (z_fc rfl (z_fc rfl (z_fn))))) <| sfM_suffix_52 N k4 hk4 l0 l1 l3 l3 h _ e
def fM_suffix_4 (N : Nat) : Nat → Nat → Int32 → Int32 → Int32 → zH → Option (Int32 × zH)
  | 0, _, _, _, _, _ => none
  | n + 1, l0, l1, l2, l3, h => b1 (fR h l0 5 0) fun x1 => b1 (fAI h x1 100 (Int32.ofInt 1)) fun x2 => cond (z_cmp .ge l3 x2) (some (l2, h)) (cond (z_cmp .eq l2 (Int32.ofInt (-1))) (fM_suffix_50 N (fM_suffix_4 N n ) l0 l1 l3 h) (b1 (fR h l0 5 0) fun x3 => b1 (fAI h x3 100 (Int32.ofInt 1)) fun x4 => b1 (fR h l0 5 0) fun x5 => b1 (fAI h x5 100 (Int32.ofInt 1)) fun x6 => b2 (fM_compares N l0 ((Int32.ofInt 3) + l3) (x4 - l3) ((Int32.ofInt 3) + l2) (x6 - l2) h) fun x7 h8 => cond (z_cmp .le (l1 * x7) (Int32.ofInt 0)) (fM_suffix_52 N (fM_suffix_4 N n ) l0 l1 l2 l3 h8) (fM_suffix_50 N (fM_suffix_4 N n ) l0 l1 l3 h8)))
theorem sfM_suffix_4 {xs : List Int32} (N : Nat)   : ∀ (n : Nat) (l0 : Nat) (l1 : Int32) (l2 : Int32) (l3 : Int32) (h : zH) (r : Int32 × zH), fM_suffix_4 N n  l0 l1 l2 l3 h = some r → zt xs (2) 170 4 [(0, .ref l0), (1, .int l1), (2, .int l2), (3, .int l3)] [] h 0 0 (zQ cI r) := by
  have hy := mfM_suffix
  intro n
  induction n with
  | zero =>
    intro l0 l1 l2 l3 h r e
    rw [fM_suffix_4] at e
    cases e
  | succ n ih =>
    intro l0 l1 l2 l3 h r e
    rw [fM_suffix_4] at e
    exact zl hy 2 (pc2 := 6) (lv2 := [(0, .ref l0), (1, .int l1), (2, .int l2), (3, .int l3)]) (st2 := [.ref l0, .int l3]) rfl <| zx_gR hy rfl e fun x1 _ e => zl hy 1 (pc2 := 10) (lv2 := [(0, .ref l0), (1, .int l1), (2, .int l2), (3, .int l3)]) (st2 := [.int (Int32.ofInt 1), .ref x1, .int l3]) rfl <| zx_aI hy (j := .iaload) (Or.inl ⟨rfl, rfl⟩) rfl e fun x2 _ e => zx_c hy rfl e (fun _ e => zl hy 1 (pc2 := 59) (lv2 := [(0, .ref l0), (1, .int l1), (2, .int l2), (3, .int l3)]) (st2 := [.int l2]) rfl <| zx_ret hy rfl rfl rfl rfl e) (fun _ e => zl hy 2 (pc2 := 16) (lv2 := [(0, .ref l0), (1, .int l1), (2, .int l2), (3, .int l3)]) (st2 := [.int (Int32.ofInt (-1)), .int l2]) rfl <| zx_c hy rfl e (fun _ e => zt_sub (z_fc rfl (z_fc rfl (z_fc rfl (z_fn)))) <| sfM_suffix_50 N (fM_suffix_4 N n ) ih l0 l1 l3 h _ e) (fun _ e => zl hy 6 (pc2 := 25) (lv2 := [(0, .ref l0), (1, .int l1), (2, .int l2), (3, .int l3)]) (st2 := [.ref l0, .int ((Int32.ofInt 3) + l3), .ref l0, .int l1]) rfl <| zx_gR hy rfl e fun x3 _ e => zl hy 1 (pc2 := 29) (lv2 := [(0, .ref l0), (1, .int l1), (2, .int l2), (3, .int l3)]) (st2 := [.int (Int32.ofInt 1), .ref x3, .int ((Int32.ofInt 3) + l3), .ref l0, .int l1]) rfl <| zx_aI hy (j := .iaload) (Or.inl ⟨rfl, rfl⟩) rfl e fun x4 _ e => zl hy 6 (pc2 := 36) (lv2 := [(0, .ref l0), (1, .int l1), (2, .int l2), (3, .int l3)]) (st2 := [.ref l0, .int ((Int32.ofInt 3) + l2), .int (x4 - l3), .int ((Int32.ofInt 3) + l3), .ref l0, .int l1]) rfl <| zx_gR hy rfl e fun x5 _ e => zl hy 1 (pc2 := 40) (lv2 := [(0, .ref l0), (1, .int l1), (2, .int l2), (3, .int l3)]) (st2 := [.int (Int32.ofInt 1), .ref x5, .int ((Int32.ofInt 3) + l2), .int (x4 - l3), .int ((Int32.ofInt 3) + l3), .ref l0, .int l1]) rfl <| zx_aI hy (j := .iaload) (Or.inl ⟨rfl, rfl⟩) rfl e fun x6 _ e => zl hy 2 (pc2 := 43) (lv2 := [(0, .ref l0), (1, .int l1), (2, .int l2), (3, .int l3)]) (st2 := [.int (x6 - l2), .int ((Int32.ofInt 3) + l2), .int (x4 - l3), .int ((Int32.ofInt 3) + l3), .ref l0, .int l1]) rfl <| zx_call hy (as := [.ref l0, .int ((Int32.ofInt 3) + l3), .int (x4 - l3), .int ((Int32.ofInt 3) + l2), .int (x6 - l2)]) (rest := [.int l1]) (ov := (fun v => some (.int v))) (fun _ => rfl) rfl rfl (Or.inl rfl) rfl rfl (Nat.le_of_ble_eq_true rfl) (Nat.le_of_ble_eq_true rfl) (fun _ e _ => z_rcvT (rfM_compares N l0 ((Int32.ofInt 3) + l3) (x4 - l3) ((Int32.ofInt 3) + l2) (x6 - l2) h _ e)) (fun _ e => zt_deep (Nat.le_of_ble_eq_true rfl) (sfM_compares N l0 ((Int32.ofInt 3) + l3) (x4 - l3) ((Int32.ofInt 3) + l2) (x6 - l2) h _ e)) e fun x7 h8 _ e => zl hy 1 (pc2 := 47) (lv2 := [(0, .ref l0), (1, .int l1), (2, .int l2), (3, .int l3)]) (st2 := [.int (l1 * x7)]) rfl <| zx_c0 hy rfl e (fun _ e => zt_sub (z_fc rfl (z_fc rfl (z_fc rfl (z_fc rfl (z_fn))))) <| sfM_suffix_52 N (fM_suffix_4 N n ) ih l0 l1 l2 l3 h8 _ e) (fun _ e => zt_sub (z_fc rfl (z_fc rfl (z_fc rfl (z_fn)))) <| sfM_suffix_50 N (fM_suffix_4 N n ) ih l0 l1 l3 h8 _ e)))
def fM_suffix (N : Nat) (l0 : Nat) (l1 : Int32) (h : zH) : Option (Int32 × zH) := cond (fT h l0 5) (fM_suffix_4 N N  l0 l1 (Int32.ofInt (-1)) (Int32.ofInt 0) h) none
theorem sfM_suffix {xs : List Int32} (N : Nat) (l0 : Nat) (l1 : Int32) (h : zH) (r : Int32 × zH) (e : fM_suffix N l0 l1 h = some r) : zt xs (2) 170 0 [(0, .ref l0), (1, .int l1)] [] h 0 0 (zQ cI r) := by
  have hy := mfM_suffix
  unfold fM_suffix at e
  replace e := (cond_some e).2
  exact zl hy 4 (pc2 := 4) (lv2 := [(3, .int (Int32.ofInt 0)), (2, .int (Int32.ofInt (-1))), (0, .ref l0), (1, .int l1)]) (st2 := []) rfl <| zt_sub (z_fc rfl (z_fc rfl (z_fc rfl (z_fc rfl (z_fn))))) <| sfM_suffix_4 N   N l0 l1 (Int32.ofInt (-1)) (Int32.ofInt 0) h _ e
theorem rfM_suffix (N : Nat) (l0 : Nat) (l1 : Int32) (h : zH) (r : Int32 × zH) (e : fM_suffix N l0 l1 h = some r) : fT h l0 5 = true := by
  unfold fM_suffix at e
  exact (cond_some e).1
/-- LyndonBenchModel.power(I)I -/
theorem mfM_power : z_me 171 zc_171 4 [] (some .int) := ⟨z_me0 rfl, rfl, rfl, rfl⟩
def fM_power_31 (N : Nat)  (l2 : Int32) (h : zH) : Option (Int32 × zH) := some (l2, h)
theorem sfM_power_31 {xs : List Int32} (N : Nat)   (l2 : Int32) (h : zH) (r : Int32 × zH) (e : fM_power_31 N  l2 h = some r) : zt xs (1) 171 31 [(2, .int l2)] [] h 0 0 (zQ cI r) := by
  have hy := mfM_power
  unfold fM_power_31 at e
  exact zl hy 1 (pc2 := 32) (lv2 := [(2, .int l2)]) (st2 := [.int l2]) rfl <| zx_ret hy rfl rfl rfl rfl e
def fM_power_4 (N : Nat) : Nat → Nat → Int32 → Int32 → Int32 → zH → Option (Int32 × zH)
  | 0, _, _, _, _, _ => none
  | n + 1, l0, l1, l2, l3, h => cond (z_cmp .ge l3 l1) (fM_power_31 N  l2 h) (cond (z_cmp .gt l2 (Int32.ofInt 4096)) (fM_power_31 N  l2 h) (b1 (fR h l0 5 0) fun x1 => b1 (fAI h x1 100 (Int32.ofInt 0)) fun x2 => fM_power_4 N n  l0 l1 (l2 * x2) (l3 + Int32.ofInt 1) h))
theorem sfM_power_4 {xs : List Int32} (N : Nat)   : ∀ (n : Nat) (l0 : Nat) (l1 : Int32) (l2 : Int32) (l3 : Int32) (h : zH) (r : Int32 × zH), fM_power_4 N n  l0 l1 l2 l3 h = some r → zt xs (1) 171 4 [(0, .ref l0), (1, .int l1), (2, .int l2), (3, .int l3)] [] h 0 0 (zQ cI r) := by
  have hy := mfM_power
  intro n
  induction n with
  | zero =>
    intro l0 l1 l2 l3 h r e
    rw [fM_power_4] at e
    cases e
  | succ n ih =>
    intro l0 l1 l2 l3 h r e
    rw [fM_power_4] at e
    exact zl hy 2 (pc2 := 6) (lv2 := [(0, .ref l0), (1, .int l1), (2, .int l2), (3, .int l3)]) (st2 := [.int l1, .int l3]) rfl <| zx_c hy rfl e (fun _ e => zt_sub (z_fc rfl (z_fn)) <| sfM_power_31 N   l2 h _ e) (fun _ e => zl hy 1 (pc2 := 10) (lv2 := [(0, .ref l0), (1, .int l1), (2, .int l2), (3, .int l3)]) (st2 := [.int l2]) rfl <| zx_sip hy (c := 4096) rfl (by decide) <| zx_c hy rfl e (fun _ e => zt_sub (z_fc rfl (z_fn)) <| sfM_power_31 N   l2 h _ e) (fun _ e => zl hy 2 (pc2 := 18) (lv2 := [(0, .ref l0), (1, .int l1), (2, .int l2), (3, .int l3)]) (st2 := [.ref l0, .int l2]) rfl <| zx_gR hy rfl e fun x1 _ e => zl hy 1 (pc2 := 22) (lv2 := [(0, .ref l0), (1, .int l1), (2, .int l2), (3, .int l3)]) (st2 := [.int (Int32.ofInt 0), .ref x1, .int l2]) rfl <| zx_aI hy (j := .iaload) (Or.inl ⟨rfl, rfl⟩) rfl e fun x2 _ e => zl hy 4 (pc2 := 4) (lv2 := [(3, .int (l3 + Int32.ofInt 1)), (2, .int (l2 * x2)), (0, .ref l0), (1, .int l1)]) (st2 := []) rfl <| zt_sub (z_fc rfl (z_fc rfl (z_fc rfl (z_fc rfl (z_fn))))) <| ih l0 l1 (l2 * x2) (l3 + Int32.ofInt 1) h _ e))
def fM_power (N : Nat) (l0 : Nat) (l1 : Int32) (h : zH) : Option (Int32 × zH) := cond (fT h l0 5) (fM_power_4 N N  l0 l1 (Int32.ofInt 1) (Int32.ofInt 0) h) none
theorem sfM_power {xs : List Int32} (N : Nat) (l0 : Nat) (l1 : Int32) (h : zH) (r : Int32 × zH) (e : fM_power N l0 l1 h = some r) : zt xs (1) 171 0 [(0, .ref l0), (1, .int l1)] [] h 0 0 (zQ cI r) := by
  have hy := mfM_power
  unfold fM_power at e
  replace e := (cond_some e).2
  exact zl hy 4 (pc2 := 4) (lv2 := [(3, .int (Int32.ofInt 0)), (2, .int (Int32.ofInt 1)), (0, .ref l0), (1, .int l1)]) (st2 := []) rfl <| zt_sub (z_fc rfl (z_fc rfl (z_fc rfl (z_fc rfl (z_fn))))) <| sfM_power_4 N   N l0 l1 (Int32.ofInt 1) (Int32.ofInt 0) h _ e
theorem rfM_power (N : Nat) (l0 : Nat) (l1 : Int32) (h : zH) (r : Int32 × zH) (e : fM_power N l0 l1 h = some r) : fT h l0 5 = true := by
  unfold fM_power at e
  exact (cond_some e).1
/-- LyndonBenchModel.spells(II)V -/
theorem mfM_spells : z_me 172 zc_172 5 [] none := ⟨z_me0 rfl, rfl, rfl, rfl⟩
def fM_spells_12 (N : Nat) : Nat → Nat → Int32 → Int32 → zH → Option (Unit × zH)
  | 0, _, _, _, _ => none
  | n + 1, l0, l3, l4, h => cond (z_cmp .lt l4 (Int32.ofInt 0)) (some ((), h)) (b1 (fR h l0 5 8) fun x2 => b1 (fR h l0 5 0) fun x3 => b1 (fAI h x3 100 (Int32.ofInt 0)) fun x4 => (if x4 = Int32.ofInt 0 then none else b1 (fAS h x2 100 l4 (.int (l3 - l3 / x4 * x4))) fun h6 => b1 (fR h6 l0 5 0) fun x7 => b1 (fAI h6 x7 100 (Int32.ofInt 0)) fun x8 => (if x8 = Int32.ofInt 0 then none else fM_spells_12 N n  l0 (l3 / x8) (l4 + Int32.ofInt (-1)) h6)))
theorem sfM_spells_12 {xs : List Int32} (N : Nat)   : ∀ (n : Nat) (l0 : Nat) (l3 : Int32) (l4 : Int32) (h : zH) (r : Unit × zH), fM_spells_12 N n  l0 l3 l4 h = some r → zt xs (1) 172 12 [(0, .ref l0), (3, .int l3), (4, .int l4)] [] h 0 0 (zQ cV r) := by
  have hy := mfM_spells
  intro n
  induction n with
  | zero =>
    intro l0 l3 l4 h r e
    rw [fM_spells_12] at e
    cases e
  | succ n ih =>
    intro l0 l3 l4 h r e
    rw [fM_spells_12] at e
    exact zl hy 1 (pc2 := 14) (lv2 := [(0, .ref l0), (3, .int l3), (4, .int l4)]) (st2 := [.int l4]) rfl <| zx_c0 hy rfl e (fun _ e => zx_retV hy rfl rfl e) (fun _ e => zl hy 1 (pc2 := 18) (lv2 := [(0, .ref l0), (3, .int l3), (4, .int l4)]) (st2 := [.ref l0]) rfl <| zx_gR hy rfl e fun x2 _ e => zl hy 3 (pc2 := 25) (lv2 := [(0, .ref l0), (3, .int l3), (4, .int l4)]) (st2 := [.ref l0, .int l3, .int l4, .ref x2]) rfl <| zx_gR hy rfl e fun x3 _ e => zl hy 1 (pc2 := 29) (lv2 := [(0, .ref l0), (3, .int l3), (4, .int l4)]) (st2 := [.int (Int32.ofInt 0), .ref x3, .int l3, .int l4, .ref x2]) rfl <| zx_aI hy (j := .iaload) (Or.inl ⟨rfl, rfl⟩) rfl e fun x4 _ e => zx_rem hy (G := fun _ => b1 (fAS h x2 100 l4 (.int (l3 - l3 / x4 * x4))) fun h6 => b1 (fR h6 l0 5 0) fun x7 => b1 (fAI h6 x7 100 (Int32.ofInt 0)) fun x8 => (if x8 = Int32.ofInt 0 then none else fM_spells_12 N n  l0 (l3 / x8) (l4 + Int32.ofInt (-1)) h6)) rfl e fun _ e => zx_sI hy (j := .iastore) (Or.inl ⟨rfl, rfl, rfl⟩) rfl e fun h6 _ e => zl hy 2 (pc2 := 34) (lv2 := [(0, .ref l0), (3, .int l3), (4, .int l4)]) (st2 := [.ref l0, .int l3]) rfl <| zx_gR hy rfl e fun x7 _ e => zl hy 1 (pc2 := 38) (lv2 := [(0, .ref l0), (3, .int l3), (4, .int l4)]) (st2 := [.int (Int32.ofInt 0), .ref x7, .int l3]) rfl <| zx_aI hy (j := .iaload) (Or.inl ⟨rfl, rfl⟩) rfl e fun x8 _ e => zx_div hy (G := fun _ => fM_spells_12 N n  l0 (l3 / x8) (l4 + Int32.ofInt (-1)) h6) rfl e fun _ e => zl hy 3 (pc2 := 12) (lv2 := [(4, .int (l4 + Int32.ofInt (-1))), (3, .int (l3 / x8)), (0, .ref l0)]) (st2 := []) rfl <| zt_sub (z_fc rfl (z_fc rfl (z_fc rfl (z_fn)))) <| ih l0 (l3 / x8) (l4 + Int32.ofInt (-1)) h6 _ e)
def fM_spells (N : Nat) (l0 : Nat) (l1 : Int32) (l2 : Int32) (h : zH) : Option (Unit × zH) := cond (fT h l0 5) (b1 (fS h l0 5 14 (.int l2)) fun h1 => fM_spells_12 N N  l0 l1 (l2 - (Int32.ofInt 1)) h1) none
theorem sfM_spells {xs : List Int32} (N : Nat) (l0 : Nat) (l1 : Int32) (l2 : Int32) (h : zH) (r : Unit × zH) (e : fM_spells N l0 l1 l2 h = some r) : zt xs (1) 172 0 [(0, .ref l0), (1, .int l1), (2, .int l2)] [] h 0 0 (zQ cV r) := by
  have hy := mfM_spells
  unfold fM_spells at e
  replace e := (cond_some e).2
  exact zl hy 4 (pc2 := 4) (lv2 := [(3, .int l1), (0, .ref l0), (1, .int l1), (2, .int l2)]) (st2 := [.int l2, .ref l0]) rfl <| zx_pf hy rfl e (rfl) fun h1 _ e => zl hy 4 (pc2 := 12) (lv2 := [(4, .int (l2 - (Int32.ofInt 1))), (3, .int l1), (0, .ref l0), (1, .int l1), (2, .int l2)]) (st2 := []) rfl <| zt_sub (z_fc rfl (z_fc rfl (z_fc rfl (z_fn)))) <| sfM_spells_12 N   N l0 l1 (l2 - (Int32.ofInt 1)) h1 _ e
theorem rfM_spells (N : Nat) (l0 : Nat) (l1 : Int32) (l2 : Int32) (h : zH) (r : Unit × zH) (e : fM_spells N l0 l1 l2 h = some r) : fT h l0 5 = true := by
  unfold fM_spells at e
  exact (cond_some e).1
/-- LyndonBenchModel.rootLength()I -/
theorem mfM_rootLength : z_me 173 zc_173 2 [] (some .int) := ⟨z_me0 rfl, rfl, rfl, rfl⟩
def fM_rootLength_2 (N : Nat) : Nat → Nat → Int32 → zH → Option (Int32 × zH)
  | 0, _, _, _ => none
  | n + 1, l0, l1, h => b1 (fI h l0 5 14) fun x1 => cond (z_cmp .ge l1 x1) (b1 (fI h l0 5 14) fun x2 => some (x2, h)) (b2 (fM_turned N l0 l1 h) fun x3 h4 => cond (z_cmp .ne x3 (Int32.ofInt 0)) (fM_rootLength_2 N n  l0 (l1 + Int32.ofInt 1) h4) (some (l1, h4)))
theorem sfM_rootLength_2 {xs : List Int32} (N : Nat)   : ∀ (n : Nat) (l0 : Nat) (l1 : Int32) (h : zH) (r : Int32 × zH), fM_rootLength_2 N n  l0 l1 h = some r → zt xs (2) 173 2 [(0, .ref l0), (1, .int l1)] [] h 0 0 (zQ cI r) := by
  have hy := mfM_rootLength
  intro n
  induction n with
  | zero =>
    intro l0 l1 h r e
    rw [fM_rootLength_2] at e
    cases e
  | succ n ih =>
    intro l0 l1 h r e
    rw [fM_rootLength_2] at e
    exact zl hy 2 (pc2 := 4) (lv2 := [(0, .ref l0), (1, .int l1)]) (st2 := [.ref l0, .int l1]) rfl <| zx_gI hy rfl e fun x1 _ e => zx_c hy rfl e (fun _ e => zl hy 1 (pc2 := 27) (lv2 := [(0, .ref l0), (1, .int l1)]) (st2 := [.ref l0]) rfl <| zx_gI hy rfl e fun x2 _ e => zx_ret hy rfl rfl rfl rfl e) (fun _ e => zl hy 2 (pc2 := 12) (lv2 := [(0, .ref l0), (1, .int l1)]) (st2 := [.int l1, .ref l0]) rfl <| zx_call hy (as := [.ref l0, .int l1]) (rest := []) (ov := (fun v => some (.int v))) (fun _ => rfl) rfl rfl (Or.inl rfl) rfl rfl (Nat.le_of_ble_eq_true rfl) (Nat.le_of_ble_eq_true rfl) (fun _ e _ => z_rcvT (rfM_turned N l0 l1 h _ e)) (fun _ e => zt_deep (Nat.le_of_ble_eq_true rfl) (sfM_turned N l0 l1 h _ e)) e fun x3 h4 _ e => zx_c0 hy rfl e (fun _ e => zl hy 2 (pc2 := 2) (lv2 := [(1, .int (l1 + Int32.ofInt 1)), (0, .ref l0)]) (st2 := []) rfl <| zt_sub (z_fc rfl (z_fc rfl (z_fn))) <| ih l0 (l1 + Int32.ofInt 1) h4 _ e) (fun _ e => zl hy 1 (pc2 := 19) (lv2 := [(0, .ref l0), (1, .int l1)]) (st2 := [.int l1]) rfl <| zx_ret hy rfl rfl rfl rfl e))
def fM_rootLength (N : Nat) (l0 : Nat) (h : zH) : Option (Int32 × zH) := cond (fT h l0 5) (fM_rootLength_2 N N  l0 (Int32.ofInt 1) h) none
theorem sfM_rootLength {xs : List Int32} (N : Nat) (l0 : Nat) (h : zH) (r : Int32 × zH) (e : fM_rootLength N l0 h = some r) : zt xs (2) 173 0 [(0, .ref l0)] [] h 0 0 (zQ cI r) := by
  have hy := mfM_rootLength
  unfold fM_rootLength at e
  replace e := (cond_some e).2
  exact zl hy 2 (pc2 := 2) (lv2 := [(1, .int (Int32.ofInt 1)), (0, .ref l0)]) (st2 := []) rfl <| zt_sub (z_fc rfl (z_fc rfl (z_fn))) <| sfM_rootLength_2 N   N l0 (Int32.ofInt 1) h _ e
theorem rfM_rootLength (N : Nat) (l0 : Nat) (h : zH) (r : Int32 × zH) (e : fM_rootLength N l0 h = some r) : fT h l0 5 = true := by
  unfold fM_rootLength at e
  exact (cond_some e).1
/-- LyndonBenchModel.primitives(I)J -/
theorem mfM_primitives : z_me 174 zc_174 5 [] (some .long) := ⟨z_me0 rfl, rfl, rfl, rfl⟩
def fM_primitives_54 (N : Nat) (rc : Nat → Int32 → zH → Option (Int64 × zH)) (k30 : Nat → Int32 → Int64 → Int32 → zH → Option (Int64 × zH)) (l0 : Nat) (l1 : Int32) (l4 : Int32) (s0 : Int64) (s1 : Int64) (h : zH) : Option (Int64 × zH) := k30 l0 l1 (s1 - s0) (l4 + Int32.ofInt 1) h
theorem sfM_primitives_54 {xs : List Int32} (N : Nat) (rc : Nat → Int32 → zH → Option (Int64 × zH)) {D : Nat} (hrc : ∀ (l0 : Nat) (l1 : Int32) (h : zH) (r : Int64 × zH), rc l0 l1 h = some r → zt xs D 174 0 [(0, .ref l0), (1, .int l1)] [] h 0 0 (zQ cL r)) (hrf : ∀ (l0 : Nat) (l1 : Int32) (h : zH) (r : Int64 × zH), rc l0 l1 h = some r → fT h l0 5 = true) (k30 : Nat → Int32 → Int64 → Int32 → zH → Option (Int64 × zH))  (hk30 : ∀ (l0 : Nat) (l1 : Int32) (l2 : Int64) (l4 : Int32) (h : zH) (r : Int64 × zH), k30 l0 l1 l2 l4 h = some r → zt xs (D + 1) 174 30 [(0, .ref l0), (1, .int l1), (2, .long l2), (4, .int l4)] [] h 0 0 (zQ cL r)) (l0 : Nat) (l1 : Int32) (l4 : Int32) (s0 : Int64) (s1 : Int64) (h : zH) (r : Int64 × zH) (e : fM_primitives_54 N rc k30 l0 l1 l4 s0 s1 h = some r) : zt xs (D + 1) 174 54 [(0, .ref l0), (1, .int l1), (4, .int l4)] [.long s0, .long s1] h 0 0 (zQ cL r) := by
  have hy := mfM_primitives
  unfold fM_primitives_54 at e
  exact zl hy 4 (pc2 := 30) (lv2 := [(4, .int (l4 + Int32.ofInt 1)), (2, .long (s1 - s0)), (0, .ref l0), (1, .int l1)]) (st2 := []) rfl <| zt_sub (z_fc rfl (z_fc rfl (z_fc rfl (z_fc rfl (z_fn))))) <| hk30 l0 l1 (s1 - s0) (l4 + Int32.ofInt 1) h _ e
def fM_primitives_30 (N : Nat) (rc : Nat → Int32 → zH → Option (Int64 × zH)) : Nat → Nat → Int32 → Int64 → Int32 → zH → Option (Int64 × zH)
  | 0, _, _, _, _, _ => none
  | n + 1, l0, l1, l2, l4, h => cond (z_cmp .ge l4 l1) (some (l2, h)) ((if l4 = Int32.ofInt 0 then none else cond (z_cmp .ne (l1 - l1 / l4 * l4) (Int32.ofInt 0)) (fM_primitives_54 N rc (fM_primitives_30 N rc n ) l0 l1 l4 (Int64.ofNat 0) l2 h) (b2 (rc l0 l4 h) fun x2 h3 => fM_primitives_54 N rc (fM_primitives_30 N rc n ) l0 l1 l4 x2 l2 h3)))
theorem sfM_primitives_30 {xs : List Int32} (N : Nat) (rc : Nat → Int32 → zH → Option (Int64 × zH)) {D : Nat} (hrc : ∀ (l0 : Nat) (l1 : Int32) (h : zH) (r : Int64 × zH), rc l0 l1 h = some r → zt xs D 174 0 [(0, .ref l0), (1, .int l1)] [] h 0 0 (zQ cL r)) (hrf : ∀ (l0 : Nat) (l1 : Int32) (h : zH) (r : Int64 × zH), rc l0 l1 h = some r → fT h l0 5 = true)   : ∀ (n : Nat) (l0 : Nat) (l1 : Int32) (l2 : Int64) (l4 : Int32) (h : zH) (r : Int64 × zH), fM_primitives_30 N rc n  l0 l1 l2 l4 h = some r → zt xs (D + 1) 174 30 [(0, .ref l0), (1, .int l1), (2, .long l2), (4, .int l4)] [] h 0 0 (zQ cL r) := by
  have hy := mfM_primitives
  intro n
  induction n with
  | zero =>
    intro l0 l1 l2 l4 h r e
    rw [fM_primitives_30] at e
    cases e
  | succ n ih =>
    intro l0 l1 l2 l4 h r e
    rw [fM_primitives_30] at e
    exact zl hy 2 (pc2 := 33) (lv2 := [(0, .ref l0), (1, .int l1), (2, .long l2), (4, .int l4)]) (st2 := [.int l1, .int l4]) rfl <| zx_c hy rfl e (fun _ e => zl hy 1 (pc2 := 63) (lv2 := [(0, .ref l0), (1, .int l1), (2, .long l2), (4, .int l4)]) (st2 := [.long l2]) rfl <| zx_ret hy rfl rfl rfl rfl e) (fun _ e => zl hy 3 (pc2 := 40) (lv2 := [(0, .ref l0), (1, .int l1), (2, .long l2), (4, .int l4)]) (st2 := [.int l4, .int l1, .long l2]) rfl <| zx_rem hy (G := fun _ => cond (z_cmp .ne (l1 - l1 / l4 * l4) (Int32.ofInt 0)) (fM_primitives_54 N rc (fM_primitives_30 N rc n ) l0 l1 l4 (Int64.ofNat 0) l2 h) (b2 (rc l0 l4 h) fun x2 h3 => fM_primitives_54 N rc (fM_primitives_30 N rc n ) l0 l1 l4 x2 l2 h3)) rfl e fun _ e => zx_c0 hy rfl e (fun _ e => zl hy 1 (pc2 := 54) (lv2 := [(0, .ref l0), (1, .int l1), (2, .long l2), (4, .int l4)]) (st2 := [.long (Int64.ofNat 0), .long l2]) rfl <| zt_sub (z_fc rfl (z_fc rfl (z_fc rfl (z_fn)))) <| sfM_primitives_54 N rc hrc hrf (fM_primitives_30 N rc n ) ih l0 l1 l4 (Int64.ofNat 0) l2 h _ e) (fun _ e => zl hy 2 (pc2 := 47) (lv2 := [(0, .ref l0), (1, .int l1), (2, .long l2), (4, .int l4)]) (st2 := [.int l4, .ref l0, .long l2]) rfl <| zx_call hy (as := [.ref l0, .int l4]) (rest := [.long l2]) (ov := (fun v => some (.long v))) (fun _ => rfl) rfl rfl (Or.inl rfl) rfl rfl (Nat.le_of_ble_eq_true rfl) (Nat.le_of_ble_eq_true rfl) (fun _ e _ => z_rcvT (hrf l0 l4 h _ e)) (fun _ e => zt_deep (Nat.le_refl _) (hrc l0 l4 h _ e)) e fun x2 h3 _ e => zl hy 1 (pc2 := 54) (lv2 := [(0, .ref l0), (1, .int l1), (2, .long l2), (4, .int l4)]) (st2 := [.long x2, .long l2]) rfl <| zt_sub (z_fc rfl (z_fc rfl (z_fc rfl (z_fn)))) <| sfM_primitives_54 N rc hrc hrf (fM_primitives_30 N rc n ) ih l0 l1 l4 x2 l2 h3 _ e))
def fM_primitives_5 (N : Nat) (rc : Nat → Int32 → zH → Option (Int64 × zH)) : Nat → Nat → Int32 → Int64 → Int32 → zH → Option (Int64 × zH)
  | 0, _, _, _, _, _ => none
  | n + 1, l0, l1, l2, l4, h => cond (z_cmp .ge l4 l1) (fM_primitives_30 N rc N  l0 l1 l2 (Int32.ofInt 1) h) (b1 (fR h l0 5 0) fun x1 => b1 (fAI h x1 100 (Int32.ofInt 0)) fun x2 => fM_primitives_5 N rc n  l0 l1 (l2 * (x2).toInt64) (l4 + Int32.ofInt 1) h)
theorem sfM_primitives_5 {xs : List Int32} (N : Nat) (rc : Nat → Int32 → zH → Option (Int64 × zH)) {D : Nat} (hrc : ∀ (l0 : Nat) (l1 : Int32) (h : zH) (r : Int64 × zH), rc l0 l1 h = some r → zt xs D 174 0 [(0, .ref l0), (1, .int l1)] [] h 0 0 (zQ cL r)) (hrf : ∀ (l0 : Nat) (l1 : Int32) (h : zH) (r : Int64 × zH), rc l0 l1 h = some r → fT h l0 5 = true)   : ∀ (n : Nat) (l0 : Nat) (l1 : Int32) (l2 : Int64) (l4 : Int32) (h : zH) (r : Int64 × zH), fM_primitives_5 N rc n  l0 l1 l2 l4 h = some r → zt xs (D + 1) 174 5 [(0, .ref l0), (1, .int l1), (2, .long l2), (4, .int l4)] [] h 0 0 (zQ cL r) := by
  have hy := mfM_primitives
  intro n
  induction n with
  | zero =>
    intro l0 l1 l2 l4 h r e
    rw [fM_primitives_5] at e
    cases e
  | succ n ih =>
    intro l0 l1 l2 l4 h r e
    rw [fM_primitives_5] at e
    exact zl hy 2 (pc2 := 8) (lv2 := [(0, .ref l0), (1, .int l1), (2, .long l2), (4, .int l4)]) (st2 := [.int l1, .int l4]) rfl <| zx_c hy rfl e (fun _ e => zl hy 2 (pc2 := 30) (lv2 := [(4, .int (Int32.ofInt 1)), (0, .ref l0), (1, .int l1), (2, .long l2)]) (st2 := []) rfl <| zt_sub (z_fc rfl (z_fc rfl (z_fc rfl (z_fc rfl (z_fn))))) <| sfM_primitives_30 N rc hrc hrf   N l0 l1 l2 (Int32.ofInt 1) h _ e) (fun _ e => zl hy 2 (pc2 := 13) (lv2 := [(0, .ref l0), (1, .int l1), (2, .long l2), (4, .int l4)]) (st2 := [.ref l0, .long l2]) rfl <| zx_gR hy rfl e fun x1 _ e => zl hy 1 (pc2 := 17) (lv2 := [(0, .ref l0), (1, .int l1), (2, .long l2), (4, .int l4)]) (st2 := [.int (Int32.ofInt 0), .ref x1, .long l2]) rfl <| zx_aI hy (j := .iaload) (Or.inl ⟨rfl, rfl⟩) rfl e fun x2 _ e => zl hy 5 (pc2 := 5) (lv2 := [(4, .int (l4 + Int32.ofInt 1)), (2, .long (l2 * (x2).toInt64)), (0, .ref l0), (1, .int l1)]) (st2 := []) rfl <| zt_sub (z_fc rfl (z_fc rfl (z_fc rfl (z_fc rfl (z_fn))))) <| ih l0 l1 (l2 * (x2).toInt64) (l4 + Int32.ofInt 1) h _ e)
def fM_primitives_B (N : Nat) (rc : Nat → Int32 → zH → Option (Int64 × zH)) (l0 : Nat) (l1 : Int32) (h : zH) : Option (Int64 × zH) := cond (fT h l0 5) (fM_primitives_5 N rc N  l0 l1 (Int64.ofNat 1) (Int32.ofInt 0) h) none
theorem sfM_primitives_B {xs : List Int32} (N : Nat) (rc : Nat → Int32 → zH → Option (Int64 × zH)) {D : Nat} (hrc : ∀ (l0 : Nat) (l1 : Int32) (h : zH) (r : Int64 × zH), rc l0 l1 h = some r → zt xs D 174 0 [(0, .ref l0), (1, .int l1)] [] h 0 0 (zQ cL r)) (hrf : ∀ (l0 : Nat) (l1 : Int32) (h : zH) (r : Int64 × zH), rc l0 l1 h = some r → fT h l0 5 = true) (l0 : Nat) (l1 : Int32) (h : zH) (r : Int64 × zH) (e : fM_primitives_B N rc l0 l1 h = some r) : zt xs (D + 1) 174 0 [(0, .ref l0), (1, .int l1)] [] h 0 0 (zQ cL r) := by
  have hy := mfM_primitives
  unfold fM_primitives_B at e
  replace e := (cond_some e).2
  exact zl hy 4 (pc2 := 5) (lv2 := [(4, .int (Int32.ofInt 0)), (2, .long (Int64.ofNat 1)), (0, .ref l0), (1, .int l1)]) (st2 := []) rfl <| zt_sub (z_fc rfl (z_fc rfl (z_fc rfl (z_fc rfl (z_fn))))) <| sfM_primitives_5 N rc hrc hrf   N l0 l1 (Int64.ofNat 1) (Int32.ofInt 0) h _ e
theorem rfM_primitives_B (N : Nat) (rc : Nat → Int32 → zH → Option (Int64 × zH)) (l0 : Nat) (l1 : Int32) (h : zH) (r : Int64 × zH) (e : fM_primitives_B N rc l0 l1 h = some r) : fT h l0 5 = true := by
  unfold fM_primitives_B at e
  exact (cond_some e).1
def fM_primitives (N : Nat) : Nat → Nat → Int32 → zH → Option (Int64 × zH)
  | 0, _, _, _ => none
  | R + 1, l0, l1, h => fM_primitives_B N (fM_primitives N R) l0 l1 h
theorem rfM_primitives (N R : Nat) (l0 : Nat) (l1 : Int32) (h : zH) (r : Int64 × zH) (e : fM_primitives N R l0 l1 h = some r) : fT h l0 5 = true := by
  cases R with
  | zero => rw [fM_primitives] at e; cases e
  | succ R => rw [fM_primitives] at e; exact rfM_primitives_B N _ l0 l1 h r e
theorem sfM_primitives {xs : List Int32} (N : Nat) : ∀ (R : Nat) (l0 : Nat) (l1 : Int32) (h : zH) (r : Int64 × zH), fM_primitives N R l0 l1 h = some r → zt xs (R * 1) 174 0 [(0, .ref l0), (1, .int l1)] [] h 0 0 (zQ cL r) := by
  intro R
  induction R with
  | zero =>
    intro l0 l1 h r e
    rw [fM_primitives] at e
    cases e
  | succ R ih =>
    intro l0 l1 h r e
    rw [fM_primitives] at e
    rw [Nat.succ_mul]
    exact sfM_primitives_B N _ ih (rfM_primitives N R) l0 l1 h r e
/-- LyndonBenchModel.rings(I)J -/
theorem mfM_rings : z_me 175 zc_175 5 [] (some .long) := ⟨z_me0 rfl, rfl, rfl, rfl⟩
def fM_rings_33 (N : Nat) (k5 : Nat → Int32 → Int64 → Int32 → zH → Option (Int64 × zH)) (l0 : Nat) (l1 : Int32) (l4 : Int32) (s0 : Int64) (s1 : Int64) (h : zH) : Option (Int64 × zH) := k5 l0 l1 (s1 + s0) (l4 + Int32.ofInt 1) h
theorem sfM_rings_33 {xs : List Int32} (N : Nat) (k5 : Nat → Int32 → Int64 → Int32 → zH → Option (Int64 × zH))  (hk5 : ∀ (l0 : Nat) (l1 : Int32) (l2 : Int64) (l4 : Int32) (h : zH) (r : Int64 × zH), k5 l0 l1 l2 l4 h = some r → zt xs (9) 175 5 [(0, .ref l0), (1, .int l1), (2, .long l2), (4, .int l4)] [] h 0 0 (zQ cL r)) (l0 : Nat) (l1 : Int32) (l4 : Int32) (s0 : Int64) (s1 : Int64) (h : zH) (r : Int64 × zH) (e : fM_rings_33 N k5 l0 l1 l4 s0 s1 h = some r) : zt xs (9) 175 33 [(0, .ref l0), (1, .int l1), (4, .int l4)] [.long s0, .long s1] h 0 0 (zQ cL r) := by
  have hy := mfM_rings
  unfold fM_rings_33 at e
  exact zl hy 4 (pc2 := 5) (lv2 := [(4, .int (l4 + Int32.ofInt 1)), (2, .long (s1 + s0)), (0, .ref l0), (1, .int l1)]) (st2 := []) rfl <| zt_sub (z_fc rfl (z_fc rfl (z_fc rfl (z_fc rfl (z_fn))))) <| hk5 l0 l1 (s1 + s0) (l4 + Int32.ofInt 1) h _ e
def fM_rings_5 (N : Nat) : Nat → Nat → Int32 → Int64 → Int32 → zH → Option (Int64 × zH)
  | 0, _, _, _, _, _ => none
  | n + 1, l0, l1, l2, l4, h => cond (z_cmp .gt l4 l1) (some (l2, h)) ((if l4 = Int32.ofInt 0 then none else cond (z_cmp .ne (l1 - l1 / l4 * l4) (Int32.ofInt 0)) (fM_rings_33 N (fM_rings_5 N n ) l0 l1 l4 (Int64.ofNat 0) l2 h) (b2 (fM_primitives N 8 l0 l4 h) fun x2 h3 => (if (l4).toInt64 = Int64.ofInt 0 then none else fM_rings_33 N (fM_rings_5 N n ) l0 l1 l4 (x2 / (l4).toInt64) l2 h3))))
theorem sfM_rings_5 {xs : List Int32} (N : Nat)   : ∀ (n : Nat) (l0 : Nat) (l1 : Int32) (l2 : Int64) (l4 : Int32) (h : zH) (r : Int64 × zH), fM_rings_5 N n  l0 l1 l2 l4 h = some r → zt xs (9) 175 5 [(0, .ref l0), (1, .int l1), (2, .long l2), (4, .int l4)] [] h 0 0 (zQ cL r) := by
  have hy := mfM_rings
  intro n
  induction n with
  | zero =>
    intro l0 l1 l2 l4 h r e
    rw [fM_rings_5] at e
    cases e
  | succ n ih =>
    intro l0 l1 l2 l4 h r e
    rw [fM_rings_5] at e
    exact zl hy 2 (pc2 := 8) (lv2 := [(0, .ref l0), (1, .int l1), (2, .long l2), (4, .int l4)]) (st2 := [.int l1, .int l4]) rfl <| zx_c hy rfl e (fun _ e => zl hy 1 (pc2 := 42) (lv2 := [(0, .ref l0), (1, .int l1), (2, .long l2), (4, .int l4)]) (st2 := [.long l2]) rfl <| zx_ret hy rfl rfl rfl rfl e) (fun _ e => zl hy 3 (pc2 := 15) (lv2 := [(0, .ref l0), (1, .int l1), (2, .long l2), (4, .int l4)]) (st2 := [.int l4, .int l1, .long l2]) rfl <| zx_rem hy (G := fun _ => cond (z_cmp .ne (l1 - l1 / l4 * l4) (Int32.ofInt 0)) (fM_rings_33 N (fM_rings_5 N n ) l0 l1 l4 (Int64.ofNat 0) l2 h) (b2 (fM_primitives N 8 l0 l4 h) fun x2 h3 => (if (l4).toInt64 = Int64.ofInt 0 then none else fM_rings_33 N (fM_rings_5 N n ) l0 l1 l4 (x2 / (l4).toInt64) l2 h3))) rfl e fun _ e => zx_c0 hy rfl e (fun _ e => zl hy 1 (pc2 := 33) (lv2 := [(0, .ref l0), (1, .int l1), (2, .long l2), (4, .int l4)]) (st2 := [.long (Int64.ofNat 0), .long l2]) rfl <| zt_sub (z_fc rfl (z_fc rfl (z_fc rfl (z_fn)))) <| sfM_rings_33 N (fM_rings_5 N n ) ih l0 l1 l4 (Int64.ofNat 0) l2 h _ e) (fun _ e => zl hy 2 (pc2 := 22) (lv2 := [(0, .ref l0), (1, .int l1), (2, .long l2), (4, .int l4)]) (st2 := [.int l4, .ref l0, .long l2]) rfl <| zx_call hy (as := [.ref l0, .int l4]) (rest := [.long l2]) (ov := (fun v => some (.long v))) (fun _ => rfl) rfl rfl (Or.inl rfl) rfl rfl (Nat.le_of_ble_eq_true rfl) (Nat.le_of_ble_eq_true rfl) (fun _ e _ => z_rcvT (rfM_primitives N 8 l0 l4 h _ e)) (fun _ e => zt_deep (Nat.le_of_ble_eq_true rfl) (sfM_primitives N 8 l0 l4 h _ e)) e fun x2 h3 _ e => zl hy 2 (pc2 := 28) (lv2 := [(0, .ref l0), (1, .int l1), (2, .long l2), (4, .int l4)]) (st2 := [.long (l4).toInt64, .long x2, .long l2]) rfl <| zx_ldv hy (G := fun _ => fM_rings_33 N (fM_rings_5 N n ) l0 l1 l4 (x2 / (l4).toInt64) l2 h3) rfl e fun _ e => zl hy 1 (pc2 := 33) (lv2 := [(0, .ref l0), (1, .int l1), (2, .long l2), (4, .int l4)]) (st2 := [.long (x2 / (l4).toInt64), .long l2]) rfl <| zt_sub (z_fc rfl (z_fc rfl (z_fc rfl (z_fn)))) <| sfM_rings_33 N (fM_rings_5 N n ) ih l0 l1 l4 (x2 / (l4).toInt64) l2 h3 _ e))
def fM_rings (N : Nat) (l0 : Nat) (l1 : Int32) (h : zH) : Option (Int64 × zH) := cond (fT h l0 5) (fM_rings_5 N N  l0 l1 (Int64.ofNat 0) (Int32.ofInt 1) h) none
theorem sfM_rings {xs : List Int32} (N : Nat) (l0 : Nat) (l1 : Int32) (h : zH) (r : Int64 × zH) (e : fM_rings N l0 l1 h = some r) : zt xs (9) 175 0 [(0, .ref l0), (1, .int l1)] [] h 0 0 (zQ cL r) := by
  have hy := mfM_rings
  unfold fM_rings at e
  replace e := (cond_some e).2
  exact zl hy 4 (pc2 := 5) (lv2 := [(4, .int (Int32.ofInt 1)), (2, .long (Int64.ofNat 0)), (0, .ref l0), (1, .int l1)]) (st2 := []) rfl <| zt_sub (z_fc rfl (z_fc rfl (z_fc rfl (z_fc rfl (z_fn))))) <| sfM_rings_5 N   N l0 l1 (Int64.ofNat 0) (Int32.ofInt 1) h _ e
theorem rfM_rings (N : Nat) (l0 : Nat) (l1 : Int32) (h : zH) (r : Int64 × zH) (e : fM_rings N l0 l1 h = some r) : fT h l0 5 = true := by
  unfold fM_rings at e
  exact (cond_some e).1
/-- LyndonBenchModel.takes()I -/
theorem mfM_takes : z_me 176 zc_176 2 [] (some .int) := ⟨z_me0 rfl, rfl, rfl, rfl⟩
def fM_takes_43 (N : Nat) (k12 : Nat → Int32 → zH → Option (Int32 × zH)) (l0 : Nat) (l1 : Int32) (s0 : Int32) (s1 : Int32) (s2 : Nat) (h : zH) : Option (Int32 × zH) := b1 (fAS h s2 100 s1 (.int s0)) fun h7 => k12 l0 (l1 + Int32.ofInt 1) h7
theorem sfM_takes_43 {xs : List Int32} (N : Nat) (k12 : Nat → Int32 → zH → Option (Int32 × zH))  (hk12 : ∀ (l0 : Nat) (l1 : Int32) (h : zH) (r : Int32 × zH), k12 l0 l1 h = some r → zt xs (1) 176 12 [(0, .ref l0), (1, .int l1)] [] h 0 0 (zQ cI r)) (l0 : Nat) (l1 : Int32) (s0 : Int32) (s1 : Int32) (s2 : Nat) (h : zH) (r : Int32 × zH) (e : fM_takes_43 N k12 l0 l1 s0 s1 s2 h = some r) : zt xs (1) 176 43 [(0, .ref l0), (1, .int l1)] [.int s0, .int s1, .ref s2] h 0 0 (zQ cI r) := by
  have hy := mfM_takes
  unfold fM_takes_43 at e
  exact zx_sI hy (j := .iastore) (Or.inl ⟨rfl, rfl, rfl⟩) rfl e fun h7 _ e => zl hy 2 (pc2 := 12) (lv2 := [(1, .int (l1 + Int32.ofInt 1)), (0, .ref l0)]) (st2 := []) rfl <| zt_sub (z_fc rfl (z_fc rfl (z_fn))) <| hk12 l0 (l1 + Int32.ofInt 1) h7 _ e
def fM_takes_12 (N : Nat) : Nat → Nat → Int32 → zH → Option (Int32 × zH)
  | 0, _, _, _ => none
  | n + 1, l0, l1, h => cond (z_cmp .ge l1 (Int32.ofInt 120)) (b1 (fI h l0 5 14) fun x4 => some (x4, h)) (b1 (fR h l0 5 0) fun x5 => b1 (fI h l0 5 14) fun x6 => cond (z_cmp .ge l1 x6) (fM_takes_43 N (fM_takes_12 N n ) l0 l1 (Int32.ofInt 0) ((Int32.ofInt 3) + l1) x5 h) (b1 (fR h l0 5 8) fun x7 => b1 (fAI h x7 100 l1) fun x8 => fM_takes_43 N (fM_takes_12 N n ) l0 l1 x8 ((Int32.ofInt 3) + l1) x5 h))
theorem sfM_takes_12 {xs : List Int32} (N : Nat)   : ∀ (n : Nat) (l0 : Nat) (l1 : Int32) (h : zH) (r : Int32 × zH), fM_takes_12 N n  l0 l1 h = some r → zt xs (1) 176 12 [(0, .ref l0), (1, .int l1)] [] h 0 0 (zQ cI r) := by
  have hy := mfM_takes
  intro n
  induction n with
  | zero =>
    intro l0 l1 h r e
    rw [fM_takes_12] at e
    cases e
  | succ n ih =>
    intro l0 l1 h r e
    rw [fM_takes_12] at e
    exact zl hy 1 (pc2 := 13) (lv2 := [(0, .ref l0), (1, .int l1)]) (st2 := [.int l1]) rfl <| zx_bip hy (c := 120) rfl (by decide) <| zx_c hy rfl e (fun _ e => zl hy 1 (pc2 := 51) (lv2 := [(0, .ref l0), (1, .int l1)]) (st2 := [.ref l0]) rfl <| zx_gI hy rfl e fun x4 _ e => zx_ret hy rfl rfl rfl rfl e) (fun _ e => zl hy 1 (pc2 := 19) (lv2 := [(0, .ref l0), (1, .int l1)]) (st2 := [.ref l0]) rfl <| zx_gR hy rfl e fun x5 _ e => zl hy 5 (pc2 := 27) (lv2 := [(0, .ref l0), (1, .int l1)]) (st2 := [.ref l0, .int l1, .int ((Int32.ofInt 3) + l1), .ref x5]) rfl <| zx_gI hy rfl e fun x6 _ e => zx_c hy rfl e (fun _ e => zl hy 1 (pc2 := 43) (lv2 := [(0, .ref l0), (1, .int l1)]) (st2 := [.int (Int32.ofInt 0), .int ((Int32.ofInt 3) + l1), .ref x5]) rfl <| zt_sub (z_fc rfl (z_fc rfl (z_fn))) <| sfM_takes_43 N (fM_takes_12 N n ) ih l0 l1 (Int32.ofInt 0) ((Int32.ofInt 3) + l1) x5 h _ e) (fun _ e => zl hy 1 (pc2 := 34) (lv2 := [(0, .ref l0), (1, .int l1)]) (st2 := [.ref l0, .int ((Int32.ofInt 3) + l1), .ref x5]) rfl <| zx_gR hy rfl e fun x7 _ e => zl hy 1 (pc2 := 38) (lv2 := [(0, .ref l0), (1, .int l1)]) (st2 := [.int l1, .ref x7, .int ((Int32.ofInt 3) + l1), .ref x5]) rfl <| zx_aI hy (j := .iaload) (Or.inl ⟨rfl, rfl⟩) rfl e fun x8 _ e => zl hy 1 (pc2 := 43) (lv2 := [(0, .ref l0), (1, .int l1)]) (st2 := [.int x8, .int ((Int32.ofInt 3) + l1), .ref x5]) rfl <| zt_sub (z_fc rfl (z_fc rfl (z_fn))) <| sfM_takes_43 N (fM_takes_12 N n ) ih l0 l1 x8 ((Int32.ofInt 3) + l1) x5 h _ e))
def fM_takes (N : Nat) (l0 : Nat) (h : zH) : Option (Int32 × zH) := cond (fT h l0 5) (b1 (fR h l0 5 0) fun x1 => b1 (fI h l0 5 14) fun x2 => b1 (fAS h x1 100 (Int32.ofInt 1) (.int x2)) fun h3 => fM_takes_12 N N  l0 (Int32.ofInt 0) h3) none
theorem sfM_takes {xs : List Int32} (N : Nat) (l0 : Nat) (h : zH) (r : Int32 × zH) (e : fM_takes N l0 h = some r) : zt xs (1) 176 0 [(0, .ref l0)] [] h 0 0 (zQ cI r) := by
  have hy := mfM_takes
  unfold fM_takes at e
  replace e := (cond_some e).2
  exact zl hy 1 (pc2 := 1) (lv2 := [(0, .ref l0)]) (st2 := [.ref l0]) rfl <| zx_gR hy rfl e fun x1 _ e => zl hy 2 (pc2 := 6) (lv2 := [(0, .ref l0)]) (st2 := [.ref l0, .int (Int32.ofInt 1), .ref x1]) rfl <| zx_gI hy rfl e fun x2 _ e => zx_sI hy (j := .iastore) (Or.inl ⟨rfl, rfl, rfl⟩) rfl e fun h3 _ e => zl hy 2 (pc2 := 12) (lv2 := [(1, .int (Int32.ofInt 0)), (0, .ref l0)]) (st2 := []) rfl <| zt_sub (z_fc rfl (z_fc rfl (z_fn))) <| sfM_takes_12 N   N l0 (Int32.ofInt 0) h3 _ e
theorem rfM_takes (N : Nat) (l0 : Nat) (h : zH) (r : Int32 × zH) (e : fM_takes N l0 h = some r) : fT h l0 5 = true := by
  unfold fM_takes at e
  exact (cond_some e).1
/-- LyndonBenchModel.appends(I)I -/
theorem mfM_appends : z_me 177 zc_177 2 [] (some .int) := ⟨z_me0 rfl, rfl, rfl, rfl⟩
def fM_appends (N : Nat) (l0 : Nat) (l1 : Int32) (h : zH) : Option (Int32 × zH) := cond (fT h l0 5) (b2 (fM_loads N l0 h) fun _ h2 => b2 (fM_adds N l0 l1 h2) fun _ h4 => b2 (fM_takes N l0 h4) fun x5 h6 => b2 (fM_factors N l0 h6) fun x7 h8 => some (x7, h8)) none
theorem sfM_appends {xs : List Int32} (N : Nat) (l0 : Nat) (l1 : Int32) (h : zH) (r : Int32 × zH) (e : fM_appends N l0 l1 h = some r) : zt xs (4) 177 0 [(0, .ref l0), (1, .int l1)] [] h 0 0 (zQ cI r) := by
  have hy := mfM_appends
  unfold fM_appends at e
  replace e := (cond_some e).2
  exact zl hy 1 (pc2 := 1) (lv2 := [(0, .ref l0), (1, .int l1)]) (st2 := [.ref l0]) rfl <| zx_call hy (as := [.ref l0]) (rest := []) (ov := (fun _ => none)) (fun _ => rfl) rfl rfl (Or.inl rfl) rfl rfl (Nat.le_of_ble_eq_true rfl) (Nat.le_of_ble_eq_true rfl) (fun _ e _ => z_rcvT (rfM_loads N l0 h _ e)) (fun _ e => zt_deep (Nat.le_of_ble_eq_true rfl) (sfM_loads N l0 h _ e)) e fun _ h2 _ e => zl hy 2 (pc2 := 6) (lv2 := [(0, .ref l0), (1, .int l1)]) (st2 := [.int l1, .ref l0]) rfl <| zx_call hy (as := [.ref l0, .int l1]) (rest := []) (ov := (fun _ => none)) (fun _ => rfl) rfl rfl (Or.inl rfl) rfl rfl (Nat.le_of_ble_eq_true rfl) (Nat.le_of_ble_eq_true rfl) (fun _ e _ => z_rcvT (rfM_adds N l0 l1 h2 _ e)) (fun _ e => zt_deep (Nat.le_of_ble_eq_true rfl) (sfM_adds N l0 l1 h2 _ e)) e fun _ h4 _ e => zl hy 1 (pc2 := 10) (lv2 := [(0, .ref l0), (1, .int l1)]) (st2 := [.ref l0]) rfl <| zx_call hy (as := [.ref l0]) (rest := []) (ov := (fun v => some (.int v))) (fun _ => rfl) rfl rfl (Or.inl rfl) rfl rfl (Nat.le_of_ble_eq_true rfl) (Nat.le_of_ble_eq_true rfl) (fun _ e _ => z_rcvT (rfM_takes N l0 h4 _ e)) (fun _ e => zt_deep (Nat.le_of_ble_eq_true rfl) (sfM_takes N l0 h4 _ e)) e fun x5 h6 _ e => zl hy 2 (pc2 := 15) (lv2 := [(0, .ref l0), (1, .int l1)]) (st2 := [.ref l0]) rfl <| zx_call hy (as := [.ref l0]) (rest := []) (ov := (fun v => some (.int v))) (fun _ => rfl) rfl rfl (Or.inl rfl) rfl rfl (Nat.le_of_ble_eq_true rfl) (Nat.le_of_ble_eq_true rfl) (fun _ e _ => z_rcvT (rfM_factors N l0 h6 _ e)) (fun _ e => zt_deep (Nat.le_of_ble_eq_true rfl) (sfM_factors N l0 h6 _ e)) e fun x7 h8 _ e => zx_ret hy rfl rfl rfl rfl e
theorem rfM_appends (N : Nat) (l0 : Nat) (l1 : Int32) (h : zH) (r : Int32 × zH) (e : fM_appends N l0 l1 h = some r) : fT h l0 5 = true := by
  unfold fM_appends at e
  exact (cond_some e).1
/-- LyndonBenchModel.drops(I)I -/
theorem mfM_drops : z_me 178 zc_178 2 [] (some .int) := ⟨z_me0 rfl, rfl, rfl, rfl⟩
def fM_drops (N : Nat) (l0 : Nat) (l1 : Int32) (h : zH) : Option (Int32 × zH) := cond (fT h l0 5) (b2 (fM_loads N l0 h) fun _ h2 => b1 (fI h2 l0 5 14) fun x3 => b1 (fS h2 l0 5 14 (.int (x3 - l1))) fun h4 => b2 (fM_takes N l0 h4) fun x5 h6 => b2 (fM_factors N l0 h6) fun x7 h8 => some (x7, h8)) none
theorem sfM_drops {xs : List Int32} (N : Nat) (l0 : Nat) (l1 : Int32) (h : zH) (r : Int32 × zH) (e : fM_drops N l0 l1 h = some r) : zt xs (4) 178 0 [(0, .ref l0), (1, .int l1)] [] h 0 0 (zQ cI r) := by
  have hy := mfM_drops
  unfold fM_drops at e
  replace e := (cond_some e).2
  exact zl hy 1 (pc2 := 1) (lv2 := [(0, .ref l0), (1, .int l1)]) (st2 := [.ref l0]) rfl <| zx_call hy (as := [.ref l0]) (rest := []) (ov := (fun _ => none)) (fun _ => rfl) rfl rfl (Or.inl rfl) rfl rfl (Nat.le_of_ble_eq_true rfl) (Nat.le_of_ble_eq_true rfl) (fun _ e _ => z_rcvT (rfM_loads N l0 h _ e)) (fun _ e => zt_deep (Nat.le_of_ble_eq_true rfl) (sfM_loads N l0 h _ e)) e fun _ h2 _ e => zl hy 2 (pc2 := 6) (lv2 := [(0, .ref l0), (1, .int l1)]) (st2 := [.ref l0, .ref l0]) rfl <| zx_gI hy rfl e fun x3 _ e => zl hy 2 (pc2 := 11) (lv2 := [(0, .ref l0), (1, .int l1)]) (st2 := [.int (x3 - l1), .ref l0]) rfl <| zx_pf hy rfl e (rfl) fun h4 _ e => zl hy 1 (pc2 := 15) (lv2 := [(0, .ref l0), (1, .int l1)]) (st2 := [.ref l0]) rfl <| zx_call hy (as := [.ref l0]) (rest := []) (ov := (fun v => some (.int v))) (fun _ => rfl) rfl rfl (Or.inl rfl) rfl rfl (Nat.le_of_ble_eq_true rfl) (Nat.le_of_ble_eq_true rfl) (fun _ e _ => z_rcvT (rfM_takes N l0 h4 _ e)) (fun _ e => zt_deep (Nat.le_of_ble_eq_true rfl) (sfM_takes N l0 h4 _ e)) e fun x5 h6 _ e => zl hy 2 (pc2 := 20) (lv2 := [(0, .ref l0), (1, .int l1)]) (st2 := [.ref l0]) rfl <| zx_call hy (as := [.ref l0]) (rest := []) (ov := (fun v => some (.int v))) (fun _ => rfl) rfl rfl (Or.inl rfl) rfl rfl (Nat.le_of_ble_eq_true rfl) (Nat.le_of_ble_eq_true rfl) (fun _ e _ => z_rcvT (rfM_factors N l0 h6 _ e)) (fun _ e => zt_deep (Nat.le_of_ble_eq_true rfl) (sfM_factors N l0 h6 _ e)) e fun x7 h8 _ e => zx_ret hy rfl rfl rfl rfl e
theorem rfM_drops (N : Nat) (l0 : Nat) (l1 : Int32) (h : zH) (r : Int32 × zH) (e : fM_drops N l0 l1 h = some r) : fT h l0 5 = true := by
  unfold fM_drops at e
  exact (cond_some e).1
/-- LyndonBenchModel.parts(II)I -/
theorem mfM_parts : z_me 179 zc_179 4 [] (some .int) := ⟨z_me0 rfl, rfl, rfl, rfl⟩
def fM_parts_9 (N : Nat) : Nat → Nat → Int32 → Int32 → Int32 → zH → Option (Int32 × zH)
  | 0, _, _, _, _, _ => none
  | n + 1, l0, l1, l2, l3, h => cond (z_cmp .ge l3 l2) (b2 (fM_takes N l0 h) fun x2 h3 => some (x2, h3)) (b1 (fR h l0 5 8) fun x4 => b1 (fR h l0 5 0) fun x5 => b1 (fAI h x5 100 ((Int32.ofInt 3) + l3)) fun x6 => b1 (fAS h x4 100 (l3 - l1) (.int x6)) fun h7 => fM_parts_9 N n  l0 l1 l2 (l3 + Int32.ofInt 1) h7)
theorem sfM_parts_9 {xs : List Int32} (N : Nat)   : ∀ (n : Nat) (l0 : Nat) (l1 : Int32) (l2 : Int32) (l3 : Int32) (h : zH) (r : Int32 × zH), fM_parts_9 N n  l0 l1 l2 l3 h = some r → zt xs (2) 179 9 [(0, .ref l0), (1, .int l1), (2, .int l2), (3, .int l3)] [] h 0 0 (zQ cI r) := by
  have hy := mfM_parts
  intro n
  induction n with
  | zero =>
    intro l0 l1 l2 l3 h r e
    rw [fM_parts_9] at e
    cases e
  | succ n ih =>
    intro l0 l1 l2 l3 h r e
    rw [fM_parts_9] at e
    exact zl hy 2 (pc2 := 11) (lv2 := [(0, .ref l0), (1, .int l1), (2, .int l2), (3, .int l3)]) (st2 := [.int l2, .int l3]) rfl <| zx_c hy rfl e (fun _ e => zl hy 1 (pc2 := 37) (lv2 := [(0, .ref l0), (1, .int l1), (2, .int l2), (3, .int l3)]) (st2 := [.ref l0]) rfl <| zx_call hy (as := [.ref l0]) (rest := []) (ov := (fun v => some (.int v))) (fun _ => rfl) rfl rfl (Or.inl rfl) rfl rfl (Nat.le_of_ble_eq_true rfl) (Nat.le_of_ble_eq_true rfl) (fun _ e _ => z_rcvT (rfM_takes N l0 h _ e)) (fun _ e => zt_deep (Nat.le_of_ble_eq_true rfl) (sfM_takes N l0 h _ e)) e fun x2 h3 _ e => zx_ret hy rfl rfl rfl rfl e) (fun _ e => zl hy 1 (pc2 := 15) (lv2 := [(0, .ref l0), (1, .int l1), (2, .int l2), (3, .int l3)]) (st2 := [.ref l0]) rfl <| zx_gR hy rfl e fun x4 _ e => zl hy 4 (pc2 := 22) (lv2 := [(0, .ref l0), (1, .int l1), (2, .int l2), (3, .int l3)]) (st2 := [.ref l0, .int (l3 - l1), .ref x4]) rfl <| zx_gR hy rfl e fun x5 _ e => zl hy 3 (pc2 := 28) (lv2 := [(0, .ref l0), (1, .int l1), (2, .int l2), (3, .int l3)]) (st2 := [.int ((Int32.ofInt 3) + l3), .ref x5, .int (l3 - l1), .ref x4]) rfl <| zx_aI hy (j := .iaload) (Or.inl ⟨rfl, rfl⟩) rfl e fun x6 _ e => zx_sI hy (j := .iastore) (Or.inl ⟨rfl, rfl, rfl⟩) rfl e fun h7 _ e => zl hy 2 (pc2 := 9) (lv2 := [(3, .int (l3 + Int32.ofInt 1)), (0, .ref l0), (1, .int l1), (2, .int l2)]) (st2 := []) rfl <| zt_sub (z_fc rfl (z_fc rfl (z_fc rfl (z_fc rfl (z_fn))))) <| ih l0 l1 l2 (l3 + Int32.ofInt 1) h7 _ e)
def fM_parts (N : Nat) (l0 : Nat) (l1 : Int32) (l2 : Int32) (h : zH) : Option (Int32 × zH) := cond (fT h l0 5) (b1 (fS h l0 5 14 (.int (l2 - l1))) fun h1 => fM_parts_9 N N  l0 l1 l2 l1 h1) none
theorem sfM_parts {xs : List Int32} (N : Nat) (l0 : Nat) (l1 : Int32) (l2 : Int32) (h : zH) (r : Int32 × zH) (e : fM_parts N l0 l1 l2 h = some r) : zt xs (2) 179 0 [(0, .ref l0), (1, .int l1), (2, .int l2)] [] h 0 0 (zQ cI r) := by
  have hy := mfM_parts
  unfold fM_parts at e
  replace e := (cond_some e).2
  exact zl hy 4 (pc2 := 4) (lv2 := [(0, .ref l0), (1, .int l1), (2, .int l2)]) (st2 := [.int (l2 - l1), .ref l0]) rfl <| zx_pf hy rfl e (rfl) fun h1 _ e => zl hy 2 (pc2 := 9) (lv2 := [(3, .int l1), (0, .ref l0), (1, .int l1), (2, .int l2)]) (st2 := []) rfl <| zt_sub (z_fc rfl (z_fc rfl (z_fc rfl (z_fc rfl (z_fn))))) <| sfM_parts_9 N   N l0 l1 l2 l1 h1 _ e
theorem rfM_parts (N : Nat) (l0 : Nat) (l1 : Int32) (l2 : Int32) (h : zH) (r : Int32 × zH) (e : fM_parts N l0 l1 l2 h = some r) : fT h l0 5 = true := by
  unfold fM_parts at e
  exact (cond_some e).1
/-- LyndonBenchModel.turns(I)I -/
theorem mfM_turns : z_me 180 zc_180 2 [] (some .int) := ⟨z_me0 rfl, rfl, rfl, rfl⟩
def fM_turns_19 (N : Nat)  (l0 : Nat) (h : zH) : Option (Int32 × zH) := b2 (fM_factors N l0 h) fun x3 h4 => some (x3, h4)
theorem sfM_turns_19 {xs : List Int32} (N : Nat)   (l0 : Nat) (h : zH) (r : Int32 × zH) (e : fM_turns_19 N  l0 h = some r) : zt xs (4) 180 19 [(0, .ref l0)] [] h 0 0 (zQ cI r) := by
  have hy := mfM_turns
  unfold fM_turns_19 at e
  exact zl hy 1 (pc2 := 20) (lv2 := [(0, .ref l0)]) (st2 := [.ref l0]) rfl <| zx_call hy (as := [.ref l0]) (rest := []) (ov := (fun v => some (.int v))) (fun _ => rfl) rfl rfl (Or.inl rfl) rfl rfl (Nat.le_of_ble_eq_true rfl) (Nat.le_of_ble_eq_true rfl) (fun _ e _ => z_rcvT (rfM_factors N l0 h _ e)) (fun _ e => zt_deep (Nat.le_of_ble_eq_true rfl) (sfM_factors N l0 h _ e)) e fun x3 h4 _ e => zx_ret hy rfl rfl rfl rfl e
def fM_turns (N : Nat) (l0 : Nat) (l1 : Int32) (h : zH) : Option (Int32 × zH) := cond (fT h l0 5) (b1 (fR h l0 5 0) fun x1 => b1 (fAI h x1 100 (Int32.ofInt 1)) fun x2 => cond (z_cmp .le x2 (Int32.ofInt 0)) (fM_turns_19 N  l0 h) (b2 (fM_loadsRotated N l0 l1 h) fun _ h4 => b2 (fM_takes N l0 h4) fun x5 h6 => fM_turns_19 N  l0 h6)) none
theorem sfM_turns {xs : List Int32} (N : Nat) (l0 : Nat) (l1 : Int32) (h : zH) (r : Int32 × zH) (e : fM_turns N l0 l1 h = some r) : zt xs (4) 180 0 [(0, .ref l0), (1, .int l1)] [] h 0 0 (zQ cI r) := by
  have hy := mfM_turns
  unfold fM_turns at e
  replace e := (cond_some e).2
  exact zl hy 1 (pc2 := 1) (lv2 := [(0, .ref l0), (1, .int l1)]) (st2 := [.ref l0]) rfl <| zx_gR hy rfl e fun x1 _ e => zl hy 1 (pc2 := 5) (lv2 := [(0, .ref l0), (1, .int l1)]) (st2 := [.int (Int32.ofInt 1), .ref x1]) rfl <| zx_aI hy (j := .iaload) (Or.inl ⟨rfl, rfl⟩) rfl e fun x2 _ e => zx_c0 hy rfl e (fun _ e => zt_sub (z_fc rfl (z_fn)) <| sfM_turns_19 N   l0 h _ e) (fun _ e => zl hy 2 (pc2 := 11) (lv2 := [(0, .ref l0), (1, .int l1)]) (st2 := [.int l1, .ref l0]) rfl <| zx_call hy (as := [.ref l0, .int l1]) (rest := []) (ov := (fun _ => none)) (fun _ => rfl) rfl rfl (Or.inl rfl) rfl rfl (Nat.le_of_ble_eq_true rfl) (Nat.le_of_ble_eq_true rfl) (fun _ e _ => z_rcvT (rfM_loadsRotated N l0 l1 h _ e)) (fun _ e => zt_deep (Nat.le_of_ble_eq_true rfl) (sfM_loadsRotated N l0 l1 h _ e)) e fun _ h4 _ e => zl hy 1 (pc2 := 15) (lv2 := [(0, .ref l0), (1, .int l1)]) (st2 := [.ref l0]) rfl <| zx_call hy (as := [.ref l0]) (rest := []) (ov := (fun v => some (.int v))) (fun _ => rfl) rfl rfl (Or.inl rfl) rfl rfl (Nat.le_of_ble_eq_true rfl) (Nat.le_of_ble_eq_true rfl) (fun _ e _ => z_rcvT (rfM_takes N l0 h4 _ e)) (fun _ e => zt_deep (Nat.le_of_ble_eq_true rfl) (sfM_takes N l0 h4 _ e)) e fun x5 h6 _ e => zl hy 1 (pc2 := 19) (lv2 := [(0, .ref l0), (1, .int l1)]) (st2 := []) rfl <| zt_sub (z_fc rfl (z_fn)) <| sfM_turns_19 N   l0 h6 _ e)
theorem rfM_turns (N : Nat) (l0 : Nat) (l1 : Int32) (h : zH) (r : Int32 × zH) (e : fM_turns N l0 l1 h = some r) : fT h l0 5 = true := by
  unfold fM_turns at e
  exact (cond_some e).1
/-- LyndonBenchModel.mirrors()I -/
theorem mfM_mirrors : z_me 181 zc_181 2 [] (some .int) := ⟨z_me0 rfl, rfl, rfl, rfl⟩
def fM_mirrors_12 (N : Nat) : Nat → Nat → Int32 → zH → Option (Int32 × zH)
  | 0, _, _, _ => none
  | n + 1, l0, l1, h => b1 (fI h l0 5 14) fun x4 => cond (z_cmp .ge l1 x4) (b2 (fM_takes N l0 h) fun x5 h6 => b2 (fM_factors N l0 h6) fun x7 h8 => some (x7, h8)) (b1 (fR h l0 5 8) fun x9 => b1 (fR h l0 5 0) fun x10 => b1 (fI h l0 5 14) fun x11 => b1 (fAI h x10 100 ((((Int32.ofInt 3) + x11) - (Int32.ofInt 1)) - l1)) fun x12 => b1 (fAS h x9 100 l1 (.int x12)) fun h13 => fM_mirrors_12 N n  l0 (l1 + Int32.ofInt 1) h13)
theorem sfM_mirrors_12 {xs : List Int32} (N : Nat)   : ∀ (n : Nat) (l0 : Nat) (l1 : Int32) (h : zH) (r : Int32 × zH), fM_mirrors_12 N n  l0 l1 h = some r → zt xs (4) 181 12 [(0, .ref l0), (1, .int l1)] [] h 0 0 (zQ cI r) := by
  have hy := mfM_mirrors
  intro n
  induction n with
  | zero =>
    intro l0 l1 h r e
    rw [fM_mirrors_12] at e
    cases e
  | succ n ih =>
    intro l0 l1 h r e
    rw [fM_mirrors_12] at e
    exact zl hy 2 (pc2 := 14) (lv2 := [(0, .ref l0), (1, .int l1)]) (st2 := [.ref l0, .int l1]) rfl <| zx_gI hy rfl e fun x4 _ e => zx_c hy rfl e (fun _ e => zl hy 1 (pc2 := 48) (lv2 := [(0, .ref l0), (1, .int l1)]) (st2 := [.ref l0]) rfl <| zx_call hy (as := [.ref l0]) (rest := []) (ov := (fun v => some (.int v))) (fun _ => rfl) rfl rfl (Or.inl rfl) rfl rfl (Nat.le_of_ble_eq_true rfl) (Nat.le_of_ble_eq_true rfl) (fun _ e _ => z_rcvT (rfM_takes N l0 h _ e)) (fun _ e => zt_deep (Nat.le_of_ble_eq_true rfl) (sfM_takes N l0 h _ e)) e fun x5 h6 _ e => zl hy 2 (pc2 := 53) (lv2 := [(0, .ref l0), (1, .int l1)]) (st2 := [.ref l0]) rfl <| zx_call hy (as := [.ref l0]) (rest := []) (ov := (fun v => some (.int v))) (fun _ => rfl) rfl rfl (Or.inl rfl) rfl rfl (Nat.le_of_ble_eq_true rfl) (Nat.le_of_ble_eq_true rfl) (fun _ e _ => z_rcvT (rfM_factors N l0 h6 _ e)) (fun _ e => zt_deep (Nat.le_of_ble_eq_true rfl) (sfM_factors N l0 h6 _ e)) e fun x7 h8 _ e => zx_ret hy rfl rfl rfl rfl e) (fun _ e => zl hy 1 (pc2 := 21) (lv2 := [(0, .ref l0), (1, .int l1)]) (st2 := [.ref l0]) rfl <| zx_gR hy rfl e fun x9 _ e => zl hy 2 (pc2 := 26) (lv2 := [(0, .ref l0), (1, .int l1)]) (st2 := [.ref l0, .int l1, .ref x9]) rfl <| zx_gR hy rfl e fun x10 _ e => zl hy 2 (pc2 := 31) (lv2 := [(0, .ref l0), (1, .int l1)]) (st2 := [.ref l0, .int (Int32.ofInt 3), .ref x10, .int l1, .ref x9]) rfl <| zx_gI hy rfl e fun x11 _ e => zl hy 5 (pc2 := 39) (lv2 := [(0, .ref l0), (1, .int l1)]) (st2 := [.int ((((Int32.ofInt 3) + x11) - (Int32.ofInt 1)) - l1), .ref x10, .int l1, .ref x9]) rfl <| zx_aI hy (j := .iaload) (Or.inl ⟨rfl, rfl⟩) rfl e fun x12 _ e => zx_sI hy (j := .iastore) (Or.inl ⟨rfl, rfl, rfl⟩) rfl e fun h13 _ e => zl hy 2 (pc2 := 12) (lv2 := [(1, .int (l1 + Int32.ofInt 1)), (0, .ref l0)]) (st2 := []) rfl <| zt_sub (z_fc rfl (z_fc rfl (z_fn))) <| ih l0 (l1 + Int32.ofInt 1) h13 _ e)
def fM_mirrors (N : Nat) (l0 : Nat) (h : zH) : Option (Int32 × zH) := cond (fT h l0 5) (b1 (fR h l0 5 0) fun x1 => b1 (fAI h x1 100 (Int32.ofInt 1)) fun x2 => b1 (fS h l0 5 14 (.int x2)) fun h3 => fM_mirrors_12 N N  l0 (Int32.ofInt 0) h3) none
theorem sfM_mirrors {xs : List Int32} (N : Nat) (l0 : Nat) (h : zH) (r : Int32 × zH) (e : fM_mirrors N l0 h = some r) : zt xs (4) 181 0 [(0, .ref l0)] [] h 0 0 (zQ cI r) := by
  have hy := mfM_mirrors
  unfold fM_mirrors at e
  replace e := (cond_some e).2
  exact zl hy 2 (pc2 := 2) (lv2 := [(0, .ref l0)]) (st2 := [.ref l0, .ref l0]) rfl <| zx_gR hy rfl e fun x1 _ e => zl hy 1 (pc2 := 6) (lv2 := [(0, .ref l0)]) (st2 := [.int (Int32.ofInt 1), .ref x1, .ref l0]) rfl <| zx_aI hy (j := .iaload) (Or.inl ⟨rfl, rfl⟩) rfl e fun x2 _ e => zx_pf hy rfl e (rfl) fun h3 _ e => zl hy 2 (pc2 := 12) (lv2 := [(1, .int (Int32.ofInt 0)), (0, .ref l0)]) (st2 := []) rfl <| zt_sub (z_fc rfl (z_fc rfl (z_fn))) <| sfM_mirrors_12 N   N l0 (Int32.ofInt 0) h3 _ e
theorem rfM_mirrors (N : Nat) (l0 : Nat) (h : zH) (r : Int32 × zH) (e : fM_mirrors N l0 h = some r) : fT h l0 5 = true := by
  unfold fM_mirrors at e
  exact (cond_some e).1
/-- LyndonBenchModel.turnsToLeast()I -/
theorem mfM_turnsToLeast : z_me 182 zc_182 2 [] (some .int) := ⟨z_me0 rfl, rfl, rfl, rfl⟩
def fM_turnsToLeast (N : Nat) (l0 : Nat) (h : zH) : Option (Int32 × zH) := cond (fT h l0 5) (b2 (fM_least N l0 h) fun x1 h2 => b2 (fM_turns N l0 x1 h2) fun x3 h4 => some (x1, h4)) none
theorem sfM_turnsToLeast {xs : List Int32} (N : Nat) (l0 : Nat) (h : zH) (r : Int32 × zH) (e : fM_turnsToLeast N l0 h = some r) : zt xs (5) 182 0 [(0, .ref l0)] [] h 0 0 (zQ cI r) := by
  have hy := mfM_turnsToLeast
  unfold fM_turnsToLeast at e
  replace e := (cond_some e).2
  exact zl hy 1 (pc2 := 1) (lv2 := [(0, .ref l0)]) (st2 := [.ref l0]) rfl <| zx_call hy (as := [.ref l0]) (rest := []) (ov := (fun v => some (.int v))) (fun _ => rfl) rfl rfl (Or.inl rfl) rfl rfl (Nat.le_of_ble_eq_true rfl) (Nat.le_of_ble_eq_true rfl) (fun _ e _ => z_rcvT (rfM_least N l0 h _ e)) (fun _ e => zt_deep (Nat.le_of_ble_eq_true rfl) (sfM_least N l0 h _ e)) e fun x1 h2 _ e => zl hy 3 (pc2 := 7) (lv2 := [(1, .int x1), (0, .ref l0)]) (st2 := [.int x1, .ref l0]) rfl <| zx_call hy (as := [.ref l0, .int x1]) (rest := []) (ov := (fun v => some (.int v))) (fun _ => rfl) rfl rfl (Or.inl rfl) rfl rfl (Nat.le_of_ble_eq_true rfl) (Nat.le_of_ble_eq_true rfl) (fun _ e _ => z_rcvT (rfM_turns N l0 x1 h2 _ e)) (fun _ e => zt_deep (Nat.le_of_ble_eq_true rfl) (sfM_turns N l0 x1 h2 _ e)) e fun x3 h4 _ e => zl hy 2 (pc2 := 12) (lv2 := [(1, .int x1), (0, .ref l0)]) (st2 := [.int x1]) rfl <| zx_ret hy rfl rfl rfl rfl e
theorem rfM_turnsToLeast (N : Nat) (l0 : Nat) (h : zH) (r : Int32 × zH) (e : fM_turnsToLeast N l0 h = some r) : fT h l0 5 = true := by
  unfold fM_turnsToLeast at e
  exact (cond_some e).1
/-- LyndonBenchModel.nexts(I)V -/
theorem mfM_nexts : z_me 183 zc_183 3 [] none := ⟨z_me0 rfl, rfl, rfl, rfl⟩
def fM_nexts_81 (N : Nat)  (l0 : Nat) (h : zH) : Option (Unit × zH) := b1 (fI h l0 5 14) fun x3 => cond (z_cmp .le x3 (Int32.ofInt 0)) (some ((), h)) (b1 (fR h l0 5 8) fun x4 => b1 (fI h l0 5 14) fun x5 => b1 (fAI h x4 100 (x5 - (Int32.ofInt 1))) fun x6 => b1 (fAS h x4 100 (x5 - (Int32.ofInt 1)) (.int (x6 + (Int32.ofInt 1)))) fun h7 => some ((), h7))
theorem sfM_nexts_81 {xs : List Int32} (N : Nat)   (l0 : Nat) (h : zH) (r : Unit × zH) (e : fM_nexts_81 N  l0 h = some r) : zt xs (1) 183 81 [(0, .ref l0)] [] h 0 0 (zQ cV r) := by
  have hy := mfM_nexts
  unfold fM_nexts_81 at e
  exact zl hy 1 (pc2 := 82) (lv2 := [(0, .ref l0)]) (st2 := [.ref l0]) rfl <| zx_gI hy rfl e fun x3 _ e => zx_c0 hy rfl e (fun _ e => zx_retV hy rfl rfl e) (fun _ e => zl hy 1 (pc2 := 89) (lv2 := [(0, .ref l0)]) (st2 := [.ref l0]) rfl <| zx_gR hy rfl e fun x4 _ e => zl hy 1 (pc2 := 93) (lv2 := [(0, .ref l0)]) (st2 := [.ref l0, .ref x4]) rfl <| zx_gI hy rfl e fun x5 _ e => zl hy 3 (pc2 := 99) (lv2 := [(0, .ref l0)]) (st2 := [.int (x5 - (Int32.ofInt 1)), .ref x4, .int (x5 - (Int32.ofInt 1)), .ref x4]) rfl <| zx_aI hy (j := .iaload) (Or.inl ⟨rfl, rfl⟩) rfl e fun x6 _ e => zl hy 2 (pc2 := 102) (lv2 := [(0, .ref l0)]) (st2 := [.int (x6 + (Int32.ofInt 1)), .int (x5 - (Int32.ofInt 1)), .ref x4]) rfl <| zx_sI hy (j := .iastore) (Or.inl ⟨rfl, rfl, rfl⟩) rfl e fun h7 _ e => zx_retV hy rfl rfl e)
def fM_nexts_39 (N : Nat) : Nat → Nat → zH → Option (Unit × zH)
  | 0, _, _ => none
  | n + 1, l0, h => b1 (fI h l0 5 14) fun x2 => cond (z_cmp .le x2 (Int32.ofInt 0)) (fM_nexts_81 N  l0 h) (b1 (fR h l0 5 8) fun x3 => b1 (fI h l0 5 14) fun x4 => b1 (fAI h x3 100 (x4 - (Int32.ofInt 1))) fun x5 => b1 (fR h l0 5 0) fun x6 => b1 (fAI h x6 100 (Int32.ofInt 0)) fun x7 => cond (z_cmp .ne x5 (x7 - (Int32.ofInt 1))) (fM_nexts_81 N  l0 h) (b1 (fI h l0 5 14) fun x8 => b1 (fS h l0 5 14 (.int (x8 - (Int32.ofInt 1)))) fun h9 => fM_nexts_39 N n  l0 h9))
theorem sfM_nexts_39 {xs : List Int32} (N : Nat)   : ∀ (n : Nat) (l0 : Nat) (h : zH) (r : Unit × zH), fM_nexts_39 N n  l0 h = some r → zt xs (1) 183 39 [(0, .ref l0)] [] h 0 0 (zQ cV r) := by
  have hy := mfM_nexts
  intro n
  induction n with
  | zero =>
    intro l0 h r e
    rw [fM_nexts_39] at e
    cases e
  | succ n ih =>
    intro l0 h r e
    rw [fM_nexts_39] at e
    exact zl hy 1 (pc2 := 40) (lv2 := [(0, .ref l0)]) (st2 := [.ref l0]) rfl <| zx_gI hy rfl e fun x2 _ e => zx_c0 hy rfl e (fun _ e => zt_sub (z_fc rfl (z_fn)) <| sfM_nexts_81 N   l0 h _ e) (fun _ e => zl hy 1 (pc2 := 47) (lv2 := [(0, .ref l0)]) (st2 := [.ref l0]) rfl <| zx_gR hy rfl e fun x3 _ e => zl hy 1 (pc2 := 51) (lv2 := [(0, .ref l0)]) (st2 := [.ref l0, .ref x3]) rfl <| zx_gI hy rfl e fun x4 _ e => zl hy 2 (pc2 := 56) (lv2 := [(0, .ref l0)]) (st2 := [.int (x4 - (Int32.ofInt 1)), .ref x3]) rfl <| zx_aI hy (j := .iaload) (Or.inl ⟨rfl, rfl⟩) rfl e fun x5 _ e => zl hy 1 (pc2 := 58) (lv2 := [(0, .ref l0)]) (st2 := [.ref l0, .int x5]) rfl <| zx_gR hy rfl e fun x6 _ e => zl hy 1 (pc2 := 62) (lv2 := [(0, .ref l0)]) (st2 := [.int (Int32.ofInt 0), .ref x6, .int x5]) rfl <| zx_aI hy (j := .iaload) (Or.inl ⟨rfl, rfl⟩) rfl e fun x7 _ e => zl hy 2 (pc2 := 65) (lv2 := [(0, .ref l0)]) (st2 := [.int (x7 - (Int32.ofInt 1)), .int x5]) rfl <| zx_c hy rfl e (fun _ e => zt_sub (z_fc rfl (z_fn)) <| sfM_nexts_81 N   l0 h _ e) (fun _ e => zl hy 2 (pc2 := 70) (lv2 := [(0, .ref l0)]) (st2 := [.ref l0, .ref l0]) rfl <| zx_gI hy rfl e fun x8 _ e => zl hy 2 (pc2 := 75) (lv2 := [(0, .ref l0)]) (st2 := [.int (x8 - (Int32.ofInt 1)), .ref l0]) rfl <| zx_pf hy rfl e (rfl) fun h9 _ e => zl hy 1 (pc2 := 39) (lv2 := [(0, .ref l0)]) (st2 := []) rfl <| zt_sub (z_fc rfl (z_fn)) <| ih l0 h9 _ e))
def fM_nexts_7 (N : Nat) : Nat → Nat → Int32 → Int32 → zH → Option (Unit × zH)
  | 0, _, _, _, _ => none
  | n + 1, l0, l1, l2, h => cond (z_cmp .ge l2 l1) (fM_nexts_39 N N  l0 h) (b1 (fR h l0 5 8) fun x2 => b1 (fR h l0 5 0) fun x3 => b1 (fR h l0 5 0) fun x4 => b1 (fAI h x4 100 (Int32.ofInt 1)) fun x5 => (if x5 = Int32.ofInt 0 then none else b1 (fAI h x3 100 ((Int32.ofInt 3) + (l2 - l2 / x5 * x5))) fun x7 => b1 (fAS h x2 100 l2 (.int x7)) fun h8 => fM_nexts_7 N n  l0 l1 (l2 + Int32.ofInt 1) h8))
theorem sfM_nexts_7 {xs : List Int32} (N : Nat)   : ∀ (n : Nat) (l0 : Nat) (l1 : Int32) (l2 : Int32) (h : zH) (r : Unit × zH), fM_nexts_7 N n  l0 l1 l2 h = some r → zt xs (1) 183 7 [(0, .ref l0), (1, .int l1), (2, .int l2)] [] h 0 0 (zQ cV r) := by
  have hy := mfM_nexts
  intro n
  induction n with
  | zero =>
    intro l0 l1 l2 h r e
    rw [fM_nexts_7] at e
    cases e
  | succ n ih =>
    intro l0 l1 l2 h r e
    rw [fM_nexts_7] at e
    exact zl hy 2 (pc2 := 9) (lv2 := [(0, .ref l0), (1, .int l1), (2, .int l2)]) (st2 := [.int l1, .int l2]) rfl <| zx_c hy rfl e (fun _ e => zt_sub (z_fc rfl (z_fn)) <| sfM_nexts_39 N   N l0 h _ e) (fun _ e => zl hy 1 (pc2 := 13) (lv2 := [(0, .ref l0), (1, .int l1), (2, .int l2)]) (st2 := [.ref l0]) rfl <| zx_gR hy rfl e fun x2 _ e => zl hy 2 (pc2 := 18) (lv2 := [(0, .ref l0), (1, .int l1), (2, .int l2)]) (st2 := [.ref l0, .int l2, .ref x2]) rfl <| zx_gR hy rfl e fun x3 _ e => zl hy 3 (pc2 := 24) (lv2 := [(0, .ref l0), (1, .int l1), (2, .int l2)]) (st2 := [.ref l0, .int l2, .int (Int32.ofInt 3), .ref x3, .int l2, .ref x2]) rfl <| zx_gR hy rfl e fun x4 _ e => zl hy 1 (pc2 := 28) (lv2 := [(0, .ref l0), (1, .int l1), (2, .int l2)]) (st2 := [.int (Int32.ofInt 1), .ref x4, .int l2, .int (Int32.ofInt 3), .ref x3, .int l2, .ref x2]) rfl <| zx_aI hy (j := .iaload) (Or.inl ⟨rfl, rfl⟩) rfl e fun x5 _ e => zx_rem hy (G := fun _ => b1 (fAI h x3 100 ((Int32.ofInt 3) + (l2 - l2 / x5 * x5))) fun x7 => b1 (fAS h x2 100 l2 (.int x7)) fun h8 => fM_nexts_7 N n  l0 l1 (l2 + Int32.ofInt 1) h8) rfl e fun _ e => zl hy 1 (pc2 := 31) (lv2 := [(0, .ref l0), (1, .int l1), (2, .int l2)]) (st2 := [.int ((Int32.ofInt 3) + (l2 - l2 / x5 * x5)), .ref x3, .int l2, .ref x2]) rfl <| zx_aI hy (j := .iaload) (Or.inl ⟨rfl, rfl⟩) rfl e fun x7 _ e => zx_sI hy (j := .iastore) (Or.inl ⟨rfl, rfl, rfl⟩) rfl e fun h8 _ e => zl hy 2 (pc2 := 7) (lv2 := [(2, .int (l2 + Int32.ofInt 1)), (0, .ref l0), (1, .int l1)]) (st2 := []) rfl <| zt_sub (z_fc rfl (z_fc rfl (z_fc rfl (z_fn)))) <| ih l0 l1 (l2 + Int32.ofInt 1) h8 _ e)
def fM_nexts (N : Nat) (l0 : Nat) (l1 : Int32) (h : zH) : Option (Unit × zH) := cond (fT h l0 5) (b1 (fS h l0 5 14 (.int l1)) fun h1 => fM_nexts_7 N N  l0 l1 (Int32.ofInt 0) h1) none
theorem sfM_nexts {xs : List Int32} (N : Nat) (l0 : Nat) (l1 : Int32) (h : zH) (r : Unit × zH) (e : fM_nexts N l0 l1 h = some r) : zt xs (1) 183 0 [(0, .ref l0), (1, .int l1)] [] h 0 0 (zQ cV r) := by
  have hy := mfM_nexts
  unfold fM_nexts at e
  replace e := (cond_some e).2
  exact zl hy 2 (pc2 := 2) (lv2 := [(0, .ref l0), (1, .int l1)]) (st2 := [.int l1, .ref l0]) rfl <| zx_pf hy rfl e (rfl) fun h1 _ e => zl hy 2 (pc2 := 7) (lv2 := [(2, .int (Int32.ofInt 0)), (0, .ref l0), (1, .int l1)]) (st2 := []) rfl <| zt_sub (z_fc rfl (z_fc rfl (z_fc rfl (z_fn)))) <| sfM_nexts_7 N   N l0 l1 (Int32.ofInt 0) h1 _ e
theorem rfM_nexts (N : Nat) (l0 : Nat) (l1 : Int32) (h : zH) (r : Unit × zH) (e : fM_nexts N l0 l1 h = some r) : fT h l0 5 = true := by
  unfold fM_nexts at e
  exact (cond_some e).1
