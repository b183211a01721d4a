/-! F functions, by program. -/
/-- LyndonBench$State.takeFromShelf(I)V -/
theorem mfS_takeFromShelf : z_me 37 zc_37 5 [] none := ⟨z_me0 rfl, rfl, rfl, rfl⟩
def fS_takeFromShelf_42 (N : Nat) (k2 : Nat → Int32 → Int32 → zH → Option (Unit × zH)) (l0 : Nat) (l1 : Int32) (l2 : Int32) (h : zH) : Option (Unit × zH) := k2 l0 l1 (l2 + Int32.ofInt 1) h
theorem sfS_takeFromShelf_42 {xs : List Int32} (N : Nat) (k2 : Nat → Int32 → Int32 → zH → Option (Unit × zH))  (hk2 : ∀ (l0 : Nat) (l1 : Int32) (l2 : Int32) (h : zH) (r : Unit × zH), k2 l0 l1 l2 h = some r → zt xs (4) 37 2 [(0, .ref l0), (1, .int l1), (2, .int l2)] [] h 0 0 (zQ cV r)) (l0 : Nat) (l1 : Int32) (l2 : Int32) (h : zH) (r : Unit × zH) (e : fS_takeFromShelf_42 N k2 l0 l1 l2 h = some r) : zt xs (4) 37 42 [(0, .ref l0), (1, .int l1), (2, .int l2)] [] h 0 0 (zQ cV r) := by
  have hy := mfS_takeFromShelf
  unfold fS_takeFromShelf_42 at e
  exact zl hy 2 (pc2 := 2) (lv2 := [(2, .int (l2 + Int32.ofInt 1)), (0, .ref l0), (1, .int l1)]) (st2 := []) rfl <| zt_sub (z_fc rfl (z_fc rfl (z_fc rfl (z_fn)))) <| hk2 l0 l1 (l2 + Int32.ofInt 1) h _ e
def fS_takeFromShelf_2 (N : Nat) : Nat → Nat → Int32 → Int32 → zH → Option (Unit × zH)
  | 0, _, _, _, _ => none
  | n + 1, l0, l1, l2, h => b1 (fI h l0 3 3) fun x1 => cond (z_cmp .ge l2 (x1 - (Int32.ofInt 1))) (cond (z_cmp .lt l1 (Int32.ofInt 0)) (some ((), h)) (b1 (fI h l0 3 3) fun x2 => cond (z_cmp .ge l1 x2) (some ((), h)) (b1 (fI h l0 3 3) fun x3 => b1 (fS h l0 3 3 (.int (x3 - (Int32.ofInt 1)))) fun h4 => some ((), h4)))) (b2 (fS_keptAt N l0 l2 h) fun x5 h6 => (match x5 with | none => b2 (fS_keptAt N l0 (l2 + (Int32.ofInt 1)) h6) fun x8 h9 => (match x8 with | none => fS_takeFromShelf_42 N (fS_takeFromShelf_2 N n ) l0 l1 l2 h9 | some x10 => fS_takeFromShelf_42 N (fS_takeFromShelf_2 N n ) l0 l1 l2 h9) | some x7 => b2 (fS_keptAt N l0 (l2 + (Int32.ofInt 1)) h6) fun x11 h12 => (match x11 with | none => cond (fX h12 x7) (fS_takeFromShelf_42 N (fS_takeFromShelf_2 N n ) l0 l1 l2 h12) none | some x13 => cond (fX h12 x7) (cond (fX h12 x13) (b2 (fW_copyFrom N x7 x13 h12) fun _ h15 => fS_takeFromShelf_42 N (fS_takeFromShelf_2 N n ) l0 l1 l2 h15) none) none)))
theorem sfS_takeFromShelf_2 {xs : List Int32} (N : Nat)   : ∀ (n : Nat) (l0 : Nat) (l1 : Int32) (l2 : Int32) (h : zH) (r : Unit × zH), fS_takeFromShelf_2 N n  l0 l1 l2 h = some r → zt xs (4) 37 2 [(0, .ref l0), (1, .int l1), (2, .int l2)] [] h 0 0 (zQ cV r) := by
  have hy := mfS_takeFromShelf
  intro n
  induction n with
  | zero =>
    intro l0 l1 l2 h r e
    rw [fS_takeFromShelf_2] at e
    cases e
  | succ n ih =>
    intro l0 l1 l2 h r e
    rw [fS_takeFromShelf_2] at e
    exact zl hy 2 (pc2 := 4) (lv2 := [(0, .ref l0), (1, .int l1), (2, .int l2)]) (st2 := [.ref l0, .int l2]) rfl <| zx_gI hy rfl e fun x1 _ e => zl hy 2 (pc2 := 9) (lv2 := [(0, .ref l0), (1, .int l1), (2, .int l2)]) (st2 := [.int (x1 - (Int32.ofInt 1)), .int l2]) rfl <| zx_c hy rfl e (fun _ e => zl hy 1 (pc2 := 49) (lv2 := [(0, .ref l0), (1, .int l1), (2, .int l2)]) (st2 := [.int l1]) rfl <| zx_c0 hy rfl e (fun _ e => zx_retV hy rfl rfl e) (fun _ e => zl hy 2 (pc2 := 54) (lv2 := [(0, .ref l0), (1, .int l1), (2, .int l2)]) (st2 := [.ref l0, .int l1]) rfl <| zx_gI hy rfl e fun x2 _ e => zx_c hy rfl e (fun _ e => zx_retV hy rfl rfl e) (fun _ e => zl hy 2 (pc2 := 62) (lv2 := [(0, .ref l0), (1, .int l1), (2, .int l2)]) (st2 := [.ref l0, .ref l0]) rfl <| zx_gI hy rfl e fun x3 _ e => zl hy 2 (pc2 := 67) (lv2 := [(0, .ref l0), (1, .int l1), (2, .int l2)]) (st2 := [.int (x3 - (Int32.ofInt 1)), .ref l0]) rfl <| zx_pf hy rfl e (rfl) fun h4 _ e => zx_retV hy rfl rfl e))) (fun _ e => zl hy 2 (pc2 := 14) (lv2 := [(0, .ref l0), (1, .int l1), (2, .int l2)]) (st2 := [.int l2, .ref l0]) rfl <| zx_call hy (as := [.ref l0, .int l2]) (rest := []) (ov := (fun v => some (va_rf v))) (fun _ => rfl) rfl rfl (Or.inl rfl) rfl rfl (Nat.le_of_ble_eq_true rfl) (Nat.le_of_ble_eq_true rfl) (fun _ e _ => z_rcvT (rfS_keptAt N l0 l2 h _ e)) (fun _ e => zt_deep (Nat.le_of_ble_eq_true rfl) (sfS_keptAt N l0 l2 h _ e)) e fun x5 h6 _ e => (match x5, e with | none, e => zl hy 5 (pc2 := 22) (lv2 := [(3, .null), (0, .ref l0), (1, .int l1), (2, .int l2)]) (st2 := [.int (l2 + (Int32.ofInt 1)), .ref l0]) rfl <| zx_call hy (as := [.ref l0, .int (l2 + (Int32.ofInt 1))]) (rest := []) (ov := (fun v => some (va_rf v))) (fun _ => rfl) rfl rfl (Or.inl rfl) rfl rfl (Nat.le_of_ble_eq_true rfl) (Nat.le_of_ble_eq_true rfl) (fun _ e _ => z_rcvT (rfS_keptAt N l0 (l2 + (Int32.ofInt 1)) h6 _ e)) (fun _ e => zt_deep (Nat.le_of_ble_eq_true rfl) (sfS_keptAt N l0 (l2 + (Int32.ofInt 1)) h6 _ e)) e fun x8 h9 _ e => (match x8, e with | none, e => zl hy 2 (pc2 := 28) (lv2 := [(4, .null), (3, .null), (0, .ref l0), (1, .int l1), (2, .int l2)]) (st2 := [.null]) rfl <| zx_nullN hy rfl <| zt_sub (z_fc rfl (z_fc rfl (z_fc rfl (z_fn)))) <| sfS_takeFromShelf_42 N (fS_takeFromShelf_2 N n ) ih l0 l1 l2 h9 _ e | some x10, e => zl hy 2 (pc2 := 28) (lv2 := [(4, .ref x10), (3, .null), (0, .ref l0), (1, .int l1), (2, .int l2)]) (st2 := [.null]) rfl <| zx_nullN hy rfl <| zt_sub (z_fc rfl (z_fc rfl (z_fc rfl (z_fn)))) <| sfS_takeFromShelf_42 N (fS_takeFromShelf_2 N n ) ih l0 l1 l2 h9 _ e) | some x7, e => zl hy 5 (pc2 := 22) (lv2 := [(3, .ref x7), (0, .ref l0), (1, .int l1), (2, .int l2)]) (st2 := [.int (l2 + (Int32.ofInt 1)), .ref l0]) rfl <| zx_call hy (as := [.ref l0, .int (l2 + (Int32.ofInt 1))]) (rest := []) (ov := (fun v => some (va_rf v))) (fun _ => rfl) rfl rfl (Or.inl rfl) rfl rfl (Nat.le_of_ble_eq_true rfl) (Nat.le_of_ble_eq_true rfl) (fun _ e _ => z_rcvT (rfS_keptAt N l0 (l2 + (Int32.ofInt 1)) h6 _ e)) (fun _ e => zt_deep (Nat.le_of_ble_eq_true rfl) (sfS_keptAt N l0 (l2 + (Int32.ofInt 1)) h6 _ e)) e fun x11 h12 _ e => (match x11, e with | none, e => zl hy 2 (pc2 := 28) (lv2 := [(4, .null), (3, .ref x7), (0, .ref l0), (1, .int l1), (2, .int l2)]) (st2 := [.ref x7]) rfl <| zx_nullR hy rfl e fun e => zl hy 1 (pc2 := 33) (lv2 := [(4, .null), (3, .ref x7), (0, .ref l0), (1, .int l1), (2, .int l2)]) (st2 := [.null]) rfl <| zx_nullN hy rfl <| zt_sub (z_fc rfl (z_fc rfl (z_fc rfl (z_fn)))) <| sfS_takeFromShelf_42 N (fS_takeFromShelf_2 N n ) ih l0 l1 l2 h12 _ e | some x13, e => zl hy 2 (pc2 := 28) (lv2 := [(4, .ref x13), (3, .ref x7), (0, .ref l0), (1, .int l1), (2, .int l2)]) (st2 := [.ref x7]) rfl <| zx_nullR hy rfl e fun e => zl hy 1 (pc2 := 33) (lv2 := [(4, .ref x13), (3, .ref x7), (0, .ref l0), (1, .int l1), (2, .int l2)]) (st2 := [.ref x13]) rfl <| zx_nullR hy rfl e fun e => zl hy 2 (pc2 := 39) (lv2 := [(4, .ref x13), (3, .ref x7), (0, .ref l0), (1, .int l1), (2, .int l2)]) (st2 := [.ref x13, .ref x7]) rfl <| zx_call hy (as := [.ref x7, .ref x13]) (rest := []) (ov := (fun _ => none)) (fun _ => rfl) rfl rfl (Or.inl rfl) rfl rfl (Nat.le_of_ble_eq_true rfl) (Nat.le_of_ble_eq_true rfl) (fun _ e _ => z_rcvT (rfW_copyFrom N x7 x13 h12 _ e)) (fun _ e => zt_deep (Nat.le_of_ble_eq_true rfl) (sfW_copyFrom N x7 x13 h12 _ e)) e fun _ h15 _ e => zt_sub (z_fc rfl (z_fc rfl (z_fc rfl (z_fn)))) <| sfS_takeFromShelf_42 N (fS_takeFromShelf_2 N n ) ih l0 l1 l2 h15 _ e)))
def fS_takeFromShelf (N : Nat) (l0 : Nat) (l1 : Int32) (h : zH) : Option (Unit × zH) := cond (fT h l0 3) (fS_takeFromShelf_2 N N  l0 l1 l1 h) none
theorem sfS_takeFromShelf {xs : List Int32} (N : Nat) (l0 : Nat) (l1 : Int32) (h : zH) (r : Unit × zH) (e : fS_takeFromShelf N l0 l1 h = some r) : zt xs (4) 37 0 [(0, .ref l0), (1, .int l1)] [] h 0 0 (zQ cV r) := by
  have hy := mfS_takeFromShelf
  unfold fS_takeFromShelf at e
  replace e := (cond_some e).2
  exact zl hy 2 (pc2 := 2) (lv2 := [(2, .int l1), (0, .ref l0), (1, .int l1)]) (st2 := []) rfl <| zt_sub (z_fc rfl (z_fc rfl (z_fc rfl (z_fn)))) <| sfS_takeFromShelf_2 N   N l0 l1 l1 h _ e
theorem rfS_takeFromShelf (N : Nat) (l0 : Nat) (l1 : Int32) (h : zH) (r : Unit × zH) (e : fS_takeFromShelf N l0 l1 h = some r) : fT h l0 3 = true := by
  unfold fS_takeFromShelf at e
  exact (cond_some e).1
/-- LyndonBench$Script.runRemove()Z -/
theorem mfC_runRemove : z_me 19 zc_19 1 [] (some .boolean) := ⟨z_me0 rfl, rfl, rfl, rfl⟩
def fC_runRemove_25 (N : Nat)   (h : zH) : Option (Int32 × zH) := some ((Int32.ofInt 0), h)
theorem sfC_runRemove_25 {xs : List Int32} (N : Nat)    (h : zH) (r : Int32 × zH) (e : fC_runRemove_25 N   h = some r) : zt xs (5) 19 25 [] [] h 0 0 (zQ cI r) := by
  have hy := mfC_runRemove
  unfold fC_runRemove_25 at e
  exact zl hy 1 (pc2 := 26) (lv2 := []) (st2 := [.int (Int32.ofInt 0)]) rfl <| zx_ret hy (v := .int (Int32.ofInt 0)) rfl rfl (by decide) rfl e
def fC_runRemove (N : Nat) (l0 : Nat) (h : zH) : Option (Int32 × zH) := cond (fT h l0 2) (b1 (fR h l0 2 1) fun x1 => b1 (fI h x1 3 3) fun x2 => b2 (fC_expectNumber N l0 (Int32.ofInt 0) (x2 - (Int32.ofInt 1)) h) fun x3 h4 => cond (z_cmp .eq x3 (Int32.ofInt 0)) (fC_runRemove_25 N   h4) (b2 (fC_expect N l0 (Int32.ofInt 5) h4) fun x5 h6 => cond (z_cmp .ne x5 (Int32.ofInt 0)) (b1 (fR h6 l0 2 1) fun x7 => b1 (fI h6 l0 2 7) fun x8 => b2 (fS_takeFromShelf N x7 x8 h6) fun _ h10 => some ((Int32.ofInt 1), h10)) (fC_runRemove_25 N   h6))) none
theorem sfC_runRemove {xs : List Int32} (N : Nat) (l0 : Nat) (h : zH) (r : Int32 × zH) (e : fC_runRemove N l0 h = some r) : zt xs (5) 19 0 [(0, .ref l0)] [] h 0 0 (zQ cI r) := by
  have hy := mfC_runRemove
  unfold fC_runRemove at e
  replace e := (cond_some e).2
  exact zl hy 3 (pc2 := 3) (lv2 := [(0, .ref l0)]) (st2 := [.ref l0, .int (Int32.ofInt 0), .ref l0]) rfl <| zx_gR hy rfl e fun x1 _ e => zx_gI hy rfl e fun x2 _ e => zl hy 2 (pc2 := 11) (lv2 := [(0, .ref l0)]) (st2 := [.int (x2 - (Int32.ofInt 1)), .int (Int32.ofInt 0), .ref l0]) rfl <| zx_call hy (as := [.ref l0, .int (Int32.ofInt 0), .int (x2 - (Int32.ofInt 1))]) (rest := []) (ov := (fun v => some (.int v))) (fun _ => rfl) rfl rfl (Or.inl rfl) rfl rfl (Nat.le_of_ble_eq_true rfl) (Nat.le_of_ble_eq_true rfl) (fun _ e _ => z_rcvT (rfC_expectNumber N l0 (Int32.ofInt 0) (x2 - (Int32.ofInt 1)) h _ e)) (fun _ e => zt_deep (Nat.le_of_ble_eq_true rfl) (sfC_expectNumber N l0 (Int32.ofInt 0) (x2 - (Int32.ofInt 1)) h _ e)) e fun x3 h4 _ e => zx_c0 hy rfl e (fun _ e => zt_sub (z_fn) <| sfC_runRemove_25 N    h4 _ e) (fun _ e => zl hy 2 (pc2 := 19) (lv2 := [(0, .ref l0)]) (st2 := [.int (Int32.ofInt 5), .ref l0]) rfl <| zx_call hy (as := [.ref l0, .int (Int32.ofInt 5)]) (rest := []) (ov := (fun v => some (.int v))) (fun _ => rfl) rfl rfl (Or.inl rfl) rfl rfl (Nat.le_of_ble_eq_true rfl) (Nat.le_of_ble_eq_true rfl) (fun _ e _ => z_rcvT (rfC_expect N l0 (Int32.ofInt 5) h4 _ e)) (fun _ e => zt_deep (Nat.le_of_ble_eq_true rfl) (sfC_expect N l0 (Int32.ofInt 5) h4 _ e)) e fun x5 h6 _ e => zx_c0 hy rfl e (fun _ e => zl hy 1 (pc2 := 28) (lv2 := [(0, .ref l0)]) (st2 := [.ref l0]) rfl <| zx_gR hy rfl e fun x7 _ e => zl hy 1 (pc2 := 32) (lv2 := [(0, .ref l0)]) (st2 := [.ref l0, .ref x7]) rfl <| zx_gI hy rfl e fun x8 _ e => zx_call hy (as := [.ref x7, .int x8]) (rest := []) (ov := (fun _ => none)) (fun _ => rfl) rfl rfl (Or.inl rfl) rfl rfl (Nat.le_of_ble_eq_true rfl) (Nat.le_of_ble_eq_true rfl) (fun _ e _ => z_rcvT (rfS_takeFromShelf N x7 x8 h6 _ e)) (fun _ e => zt_deep (Nat.le_of_ble_eq_true rfl) (sfS_takeFromShelf N x7 x8 h6 _ e)) e fun _ h10 _ e => zl hy 1 (pc2 := 39) (lv2 := [(0, .ref l0)]) (st2 := [.int (Int32.ofInt 1)]) rfl <| zx_ret hy (v := .int (Int32.ofInt 1)) rfl rfl (by decide) rfl e) (fun _ e => zt_sub (z_fn) <| sfC_runRemove_25 N    h6 _ e))
theorem rfC_runRemove (N : Nat) (l0 : Nat) (h : zH) (r : Int32 × zH) (e : fC_runRemove N l0 h = some r) : fT h l0 2 = true := by
  unfold fC_runRemove at e
  exact (cond_some e).1
/-- LyndonBench$State.canJoin()Z -/
theorem mfS_canJoin : z_me 39 zc_39 4 [] (some .boolean) := ⟨z_me0 rfl, rfl, rfl, rfl⟩
def fS_canJoin_57 (N : Nat)  (s0 : Int32) (h : zH) : Option (Int32 × zH) := cond (decide (s0 = Int32.ofInt 0) || decide (s0 = Int32.ofInt 1)) (some (s0, h)) none
theorem sfS_canJoin_57 {xs : List Int32} (N : Nat)   (s0 : Int32) (h : zH) (r : Int32 × zH) (e : fS_canJoin_57 N  s0 h = some r) : zt xs (2) 39 57 [] [.int s0] h 0 0 (zQ cI r) := by
  have hy := mfS_canJoin
  unfold fS_canJoin_57 at e
  exact zx_retB hy rfl rfl e
def fS_canJoin_56 (N : Nat)   (h : zH) : Option (Int32 × zH) := fS_canJoin_57 N  (Int32.ofInt 0) h
theorem sfS_canJoin_56 {xs : List Int32} (N : Nat)    (h : zH) (r : Int32 × zH) (e : fS_canJoin_56 N   h = some r) : zt xs (2) 39 56 [] [] h 0 0 (zQ cI r) := by
  have hy := mfS_canJoin
  unfold fS_canJoin_56 at e
  exact zl hy 1 (pc2 := 57) (lv2 := []) (st2 := [.int (Int32.ofInt 0)]) rfl <| zt_sub (z_fn) <| sfS_canJoin_57 N   (Int32.ofInt 0) h _ e
def fS_canJoin_31 (N : Nat) (k4 : Nat → Int32 → Int32 → zH → Option (Int32 × zH)) (l0 : Nat) (l2 : Int32) (s0 : Int32) (s1 : Int32) (h : zH) : Option (Int32 × zH) := k4 l0 (s1 + s0) (l2 + Int32.ofInt 1) h
theorem sfS_canJoin_31 {xs : List Int32} (N : Nat) (k4 : Nat → Int32 → Int32 → zH → Option (Int32 × zH))  (hk4 : ∀ (l0 : Nat) (l1 : Int32) (l2 : Int32) (h : zH) (r : Int32 × zH), k4 l0 l1 l2 h = some r → zt xs (2) 39 4 [(0, .ref l0), (1, .int l1), (2, .int l2)] [] h 0 0 (zQ cI r)) (l0 : Nat) (l2 : Int32) (s0 : Int32) (s1 : Int32) (h : zH) (r : Int32 × zH) (e : fS_canJoin_31 N k4 l0 l2 s0 s1 h = some r) : zt xs (2) 39 31 [(0, .ref l0), (2, .int l2)] [.int s0, .int s1] h 0 0 (zQ cI r) := by
  have hy := mfS_canJoin
  unfold fS_canJoin_31 at e
  exact zl hy 4 (pc2 := 4) (lv2 := [(2, .int (l2 + Int32.ofInt 1)), (1, .int (s1 + s0)), (0, .ref l0)]) (st2 := []) rfl <| zt_sub (z_fc rfl (z_fc rfl (z_fc rfl (z_fn)))) <| hk4 l0 (s1 + s0) (l2 + Int32.ofInt 1) h _ e
def fS_canJoin_4 (N : Nat) : Nat → Nat → Int32 → Int32 → zH → Option (Int32 × zH)
  | 0, _, _, _, _ => none
  | n + 1, l0, l1, l2, h => b1 (fI h l0 3 3) fun x1 => cond (z_cmp .ge l2 x1) (b1 (fI h l0 3 3) fun x2 => cond (z_cmp .le x2 (Int32.ofInt 0)) (fS_canJoin_56 N   h) (cond (z_cmp .gt l1 (Int32.ofInt 120)) (fS_canJoin_56 N   h) (fS_canJoin_57 N  (Int32.ofInt 1) h))) (b2 (fS_keptAt N l0 l2 h) fun x3 h4 => (match x3 with | none => fS_canJoin_31 N (fS_canJoin_4 N n ) l0 l2 (Int32.ofInt 0) l1 h4 | some x5 => cond (fX h4 x5) (b1 (fI h4 x5 4 1) fun x6 => fS_canJoin_31 N (fS_canJoin_4 N n ) l0 l2 x6 l1 h4) none))
theorem sfS_canJoin_4 {xs : List Int32} (N : Nat)   : ∀ (n : Nat) (l0 : Nat) (l1 : Int32) (l2 : Int32) (h : zH) (r : Int32 × zH), fS_canJoin_4 N n  l0 l1 l2 h = some r → zt xs (2) 39 4 [(0, .ref l0), (1, .int l1), (2, .int l2)] [] h 0 0 (zQ cI r) := by
  have hy := mfS_canJoin
  intro n
  induction n with
  | zero =>
    intro l0 l1 l2 h r e
    rw [fS_canJoin_4] at e
    cases e
  | succ n ih =>
    intro l0 l1 l2 h r e
    rw [fS_canJoin_4] at e
    exact zl hy 2 (pc2 := 6) (lv2 := [(0, .ref l0), (1, .int l1), (2, .int l2)]) (st2 := [.ref l0, .int l2]) rfl <| zx_gI hy rfl e fun x1 _ e => zx_c hy rfl e (fun _ e => zl hy 1 (pc2 := 40) (lv2 := [(0, .ref l0), (1, .int l1), (2, .int l2)]) (st2 := [.ref l0]) rfl <| zx_gI hy rfl e fun x2 _ e => zx_c0 hy rfl e (fun _ e => zt_sub (z_fn) <| sfS_canJoin_56 N    h _ e) (fun _ e => zl hy 1 (pc2 := 47) (lv2 := [(0, .ref l0), (1, .int l1), (2, .int l2)]) (st2 := [.int l1]) rfl <| zx_bip hy (c := 120) rfl (by decide) <| zx_c hy rfl e (fun _ e => zt_sub (z_fn) <| sfS_canJoin_56 N    h _ e) (fun _ e => zl hy 2 (pc2 := 57) (lv2 := [(0, .ref l0), (1, .int l1), (2, .int l2)]) (st2 := [.int (Int32.ofInt 1)]) rfl <| zt_sub (z_fn) <| sfS_canJoin_57 N   (Int32.ofInt 1) h _ e))) (fun _ e => zl hy 2 (pc2 := 14) (lv2 := [(0, .ref l0), (1, .int l1), (2, .int l2)]) (st2 := [.int l2, .ref l0]) rfl <| zx_call hy (as := [.ref l0, .int l2]) (rest := []) (ov := (fun v => some (va_rf v))) (fun _ => rfl) rfl rfl (Or.inl rfl) rfl rfl (Nat.le_of_ble_eq_true rfl) (Nat.le_of_ble_eq_true rfl) (fun _ e _ => z_rcvT (rfS_keptAt N l0 l2 h _ e)) (fun _ e => zt_deep (Nat.le_of_ble_eq_true rfl) (sfS_keptAt N l0 l2 h _ e)) e fun x3 h4 _ e => (match x3, e with | none, e => zl hy 3 (pc2 := 20) (lv2 := [(3, .null), (0, .ref l0), (1, .int l1), (2, .int l2)]) (st2 := [.null, .int l1]) rfl <| zx_nonnullN hy rfl <| zl hy 2 (pc2 := 31) (lv2 := [(3, .null), (0, .ref l0), (1, .int l1), (2, .int l2)]) (st2 := [.int (Int32.ofInt 0), .int l1]) rfl <| zt_sub (z_fc rfl (z_fc rfl (z_fn))) <| sfS_canJoin_31 N (fS_canJoin_4 N n ) ih l0 l2 (Int32.ofInt 0) l1 h4 _ e | some x5, e => zl hy 3 (pc2 := 20) (lv2 := [(3, .ref x5), (0, .ref l0), (1, .int l1), (2, .int l2)]) (st2 := [.ref x5, .int l1]) rfl <| zx_nonnullR hy rfl e fun e => zl hy 1 (pc2 := 28) (lv2 := [(3, .ref x5), (0, .ref l0), (1, .int l1), (2, .int l2)]) (st2 := [.ref x5, .int l1]) rfl <| zx_gI hy rfl e fun x6 _ e => zt_sub (z_fc rfl (z_fc rfl (z_fn))) <| sfS_canJoin_31 N (fS_canJoin_4 N n ) ih l0 l2 x6 l1 h4 _ e))
def fS_canJoin (N : Nat) (l0 : Nat) (h : zH) : Option (Int32 × zH) := cond (fT h l0 3) (fS_canJoin_4 N N  l0 (Int32.ofInt 0) (Int32.ofInt 0) h) none
theorem sfS_canJoin {xs : List Int32} (N : Nat) (l0 : Nat) (h : zH) (r : Int32 × zH) (e : fS_canJoin N l0 h = some r) : zt xs (2) 39 0 [(0, .ref l0)] [] h 0 0 (zQ cI r) := by
  have hy := mfS_canJoin
  unfold fS_canJoin at e
  replace e := (cond_some e).2
  exact zl hy 4 (pc2 := 4) (lv2 := [(2, .int (Int32.ofInt 0)), (1, .int (Int32.ofInt 0)), (0, .ref l0)]) (st2 := []) rfl <| zt_sub (z_fc rfl (z_fc rfl (z_fc rfl (z_fn)))) <| sfS_canJoin_4 N   N l0 (Int32.ofInt 0) (Int32.ofInt 0) h _ e
theorem rfS_canJoin (N : Nat) (l0 : Nat) (h : zH) (r : Int32 × zH) (e : fS_canJoin N l0 h = some r) : fT h l0 3 = true := by
  unfold fS_canJoin at e
  exact (cond_some e).1
/-- LyndonBench$State.greatestOfShelf(I)I -/
theorem mfS_greatestOfShelf : z_me 38 zc_38 6 [] (some .int) := ⟨z_me0 rfl, rfl, rfl, rfl⟩
def fS_greatestOfShelf_72 (N : Nat) (k7 : Nat → Int32 → Int32 → Option Nat → Int32 → zH → Option (Int32 × zH)) (l0 : Nat) (l1 : Int32) (l2 : Int32) (l3 : Option Nat) (l4 : Int32) (h : zH) : Option (Int32 × zH) := (match l3 with | none => k7 l0 l1 l2 none (l4 + Int32.ofInt 1) h | some x3 => k7 l0 l1 l2 (some x3) (l4 + Int32.ofInt 1) h)
theorem sfS_greatestOfShelf_72 {xs : List Int32} (N : Nat) (k7 : Nat → Int32 → Int32 → Option Nat → Int32 → zH → Option (Int32 × zH))  (hk7 : ∀ (l0 : Nat) (l1 : Int32) (l2 : Int32) (l3 : Option Nat) (l4 : Int32) (h : zH) (r : Int32 × zH), k7 l0 l1 l2 l3 l4 h = some r → zt xs (3) 38 7 [(0, .ref l0), (1, .int l1), (2, .int l2), (3, va_rf l3), (4, .int l4)] [] h 0 0 (zQ cI r)) (l0 : Nat) (l1 : Int32) (l2 : Int32) (l3 : Option Nat) (l4 : Int32) (h : zH) (r : Int32 × zH) (e : fS_greatestOfShelf_72 N k7 l0 l1 l2 l3 l4 h = some r) : zt xs (3) 38 72 [(0, .ref l0), (1, .int l1), (2, .int l2), (3, va_rf l3), (4, .int l4)] [] h 0 0 (zQ cI r) := by
  have hy := mfS_greatestOfShelf
  unfold fS_greatestOfShelf_72 at e
  exact (match l3, e with | none, e => zl hy 2 (pc2 := 7) (lv2 := [(4, .int (l4 + Int32.ofInt 1)), (0, .ref l0), (1, .int l1), (2, .int l2), (3, .null)]) (st2 := []) rfl <| zt_sub (z_fc rfl (z_fc rfl (z_fc rfl (z_fc rfl (z_fc rfl (z_fn)))))) <| hk7 l0 l1 l2 none (l4 + Int32.ofInt 1) h _ e | some x3, e => zl hy 2 (pc2 := 7) (lv2 := [(4, .int (l4 + Int32.ofInt 1)), (0, .ref l0), (1, .int l1), (2, .int l2), (3, .ref x3)]) (st2 := []) rfl <| zt_sub (z_fc rfl (z_fc rfl (z_fc rfl (z_fc rfl (z_fc rfl (z_fn)))))) <| hk7 l0 l1 l2 (some x3) (l4 + Int32.ofInt 1) h _ e)
def fS_greatestOfShelf_66 (N : Nat) (k7 : Nat → Int32 → Int32 → Option Nat → Int32 → zH → Option (Int32 × zH)) (l0 : Nat) (l1 : Int32) (l4 : Int32) (l5 : Option Nat) (h : zH) : Option (Int32 × zH) := (match l5 with | none => fS_greatestOfShelf_72 N k7 l0 l1 l4 none l4 h | some x4 => fS_greatestOfShelf_72 N k7 l0 l1 l4 (some x4) l4 h)
theorem sfS_greatestOfShelf_66 {xs : List Int32} (N : Nat) (k7 : Nat → Int32 → Int32 → Option Nat → Int32 → zH → Option (Int32 × zH))  (hk7 : ∀ (l0 : Nat) (l1 : Int32) (l2 : Int32) (l3 : Option Nat) (l4 : Int32) (h : zH) (r : Int32 × zH), k7 l0 l1 l2 l3 l4 h = some r → zt xs (3) 38 7 [(0, .ref l0), (1, .int l1), (2, .int l2), (3, va_rf l3), (4, .int l4)] [] h 0 0 (zQ cI r)) (l0 : Nat) (l1 : Int32) (l4 : Int32) (l5 : Option Nat) (h : zH) (r : Int32 × zH) (e : fS_greatestOfShelf_66 N k7 l0 l1 l4 l5 h = some r) : zt xs (3) 38 66 [(0, .ref l0), (1, .int l1), (4, .int l4), (5, va_rf l5)] [] h 0 0 (zQ cI r) := by
  have hy := mfS_greatestOfShelf
  unfold fS_greatestOfShelf_66 at e
  exact zl hy 2 (pc2 := 69) (lv2 := [(2, .int l4), (0, .ref l0), (1, .int l1), (4, .int l4), (5, va_rf l5)]) (st2 := []) rfl <| (match l5, e with | none, e => zl hy 2 (pc2 := 72) (lv2 := [(3, .null), (2, .int l4), (0, .ref l0), (1, .int l1), (4, .int l4), (5, .null)]) (st2 := []) rfl <| zt_sub (z_fc rfl (z_fc rfl (z_fc rfl (z_fc rfl (z_fc rfl (z_fn)))))) <| sfS_greatestOfShelf_72 N k7 hk7 l0 l1 l4 none l4 h _ e | some x4, e => zl hy 2 (pc2 := 72) (lv2 := [(3, .ref x4), (2, .int l4), (0, .ref l0), (1, .int l1), (4, .int l4), (5, .ref x4)]) (st2 := []) rfl <| zt_sub (z_fc rfl (z_fc rfl (z_fc rfl (z_fc rfl (z_fc rfl (z_fn)))))) <| sfS_greatestOfShelf_72 N k7 hk7 l0 l1 l4 (some x4) l4 h _ e)
def fS_greatestOfShelf_35 (N : Nat) (k7 : Nat → Int32 → Int32 → Option Nat → Int32 → zH → Option (Int32 × zH)) (l0 : Nat) (l1 : Int32) (l2 : Int32) (l3 : Option Nat) (l4 : Int32) (s0 : Option Nat) (h : zH) : Option (Int32 × zH) := (match s0 with | none => fS_greatestOfShelf_72 N k7 l0 l1 l2 l3 l4 h | some x2 => cond (fX h x2) ((match l3 with | none => fS_greatestOfShelf_66 N k7 l0 l1 l4 (some x2) h | some x3 => cond (fX h x3) (b1 (fI h x2 4 1) fun x4 => b1 (fI h x3 4 1) fun x5 => b2 (fW_order N x2 (Int32.ofInt 0) x4 x3 (Int32.ofInt 0) x5 h) fun x6 h7 => cond (z_cmp .le x6 (Int32.ofInt 0)) (fS_greatestOfShelf_72 N k7 l0 l1 l2 (some x3) l4 h7) (fS_greatestOfShelf_66 N k7 l0 l1 l4 (some x2) h7)) none)) none)
theorem sfS_greatestOfShelf_35 {xs : List Int32} (N : Nat) (k7 : Nat → Int32 → Int32 → Option Nat → Int32 → zH → Option (Int32 × zH))  (hk7 : ∀ (l0 : Nat) (l1 : Int32) (l2 : Int32) (l3 : Option Nat) (l4 : Int32) (h : zH) (r : Int32 × zH), k7 l0 l1 l2 l3 l4 h = some r → zt xs (3) 38 7 [(0, .ref l0), (1, .int l1), (2, .int l2), (3, va_rf l3), (4, .int l4)] [] h 0 0 (zQ cI r)) (l0 : Nat) (l1 : Int32) (l2 : Int32) (l3 : Option Nat) (l4 : Int32) (s0 : Option Nat) (h : zH) (r : Int32 × zH) (e : fS_greatestOfShelf_35 N k7 l0 l1 l2 l3 l4 s0 h = some r) : zt xs (3) 38 35 [(0, .ref l0), (1, .int l1), (2, .int l2), (3, va_rf l3), (4, .int l4)] [va_rf s0] h 0 0 (zQ cI r) := by
  have hy := mfS_greatestOfShelf
  unfold fS_greatestOfShelf_35 at e
  exact (match s0, e with | none, e => zl hy 2 (pc2 := 39) (lv2 := [(5, .null), (0, .ref l0), (1, .int l1), (2, .int l2), (3, va_rf l3), (4, .int l4)]) (st2 := [.null]) rfl <| zx_nullN hy rfl <| zt_sub (z_fc rfl (z_fc rfl (z_fc rfl (z_fc rfl (z_fc rfl (z_fn)))))) <| sfS_greatestOfShelf_72 N k7 hk7 l0 l1 l2 l3 l4 h _ e | some x2, e => zl hy 2 (pc2 := 39) (lv2 := [(5, .ref x2), (0, .ref l0), (1, .int l1), (2, .int l2), (3, va_rf l3), (4, .int l4)]) (st2 := [.ref x2]) rfl <| zx_nullR hy rfl e fun e => (match l3, e with | none, e => zl hy 1 (pc2 := 43) (lv2 := [(5, .ref x2), (0, .ref l0), (1, .int l1), (2, .int l2), (3, .null), (4, .int l4)]) (st2 := [.null]) rfl <| zx_nullN hy rfl <| zt_sub (z_fc rfl (z_fc rfl (z_fc rfl (z_fc rfl (z_fn))))) <| sfS_greatestOfShelf_66 N k7 hk7 l0 l1 l4 (some x2) h _ e | some x3, e => zl hy 1 (pc2 := 43) (lv2 := [(5, .ref x2), (0, .ref l0), (1, .int l1), (2, .int l2), (3, .ref x3), (4, .int l4)]) (st2 := [.ref x3]) rfl <| zx_nullR hy rfl e fun e => zl hy 3 (pc2 := 51) (lv2 := [(5, .ref x2), (0, .ref l0), (1, .int l1), (2, .int l2), (3, .ref x3), (4, .int l4)]) (st2 := [.ref x2, .int (Int32.ofInt 0), .ref x2]) rfl <| zx_gI hy rfl e fun x4 _ e => zl hy 3 (pc2 := 57) (lv2 := [(5, .ref x2), (0, .ref l0), (1, .int l1), (2, .int l2), (3, .ref x3), (4, .int l4)]) (st2 := [.ref x3, .int (Int32.ofInt 0), .ref x3, .int x4, .int (Int32.ofInt 0), .ref x2]) rfl <| zx_gI hy rfl e fun x5 _ e => zx_call hy (as := [.ref x2, .int (Int32.ofInt 0), .int x4, .ref x3, .int (Int32.ofInt 0), .int x5]) (rest := []) (ov := (fun v => some (.int v))) (fun _ => rfl) rfl rfl (Or.inl rfl) rfl rfl (Nat.le_of_ble_eq_true rfl) (Nat.le_of_ble_eq_true rfl) (fun _ e _ => z_rcvT (rfW_order N x2 (Int32.ofInt 0) x4 x3 (Int32.ofInt 0) x5 h _ e)) (fun _ e => zt_deep (Nat.le_of_ble_eq_true rfl) (sfW_order N x2 (Int32.ofInt 0) x4 x3 (Int32.ofInt 0) x5 h _ e)) e fun x6 h7 _ e => zx_c0 hy rfl e (fun _ e => zt_sub (z_fc rfl (z_fc rfl (z_fc rfl (z_fc rfl (z_fc rfl (z_fn)))))) <| sfS_greatestOfShelf_72 N k7 hk7 l0 l1 l2 (some x3) l4 h7 _ e) (fun _ e => zt_sub (z_fc rfl (z_fc rfl (z_fc rfl (z_fc rfl (z_fn))))) <| sfS_greatestOfShelf_66 N k7 hk7 l0 l1 l4 (some x2) h7 _ e)))
def fS_greatestOfShelf_7 (N : Nat) : Nat → Nat → Int32 → Int32 → Option Nat → Int32 → zH → Option (Int32 × zH)
  | 0, _, _, _, _, _, _ => none
  | n + 1, l0, l1, l2, l3, l4, h => b1 (fI h l0 3 3) fun x1 => cond (z_cmp .ge l4 x1) (some (l2, h)) (cond (z_cmp .ne ((l1 >>> (l4 &&& 31)) &&& (Int32.ofInt 1)) (Int32.ofInt 0)) (fS_greatestOfShelf_35 N (fS_greatestOfShelf_7 N n ) l0 l1 l2 l3 l4 none h) (b2 (fS_keptAt N l0 l4 h) fun x2 h3 => (match x2 with | none => fS_greatestOfShelf_35 N (fS_greatestOfShelf_7 N n ) l0 l1 l2 l3 l4 none h3 | some x4 => fS_greatestOfShelf_35 N (fS_greatestOfShelf_7 N n ) l0 l1 l2 l3 l4 (some x4) h3)))
theorem sfS_greatestOfShelf_7 {xs : List Int32} (N : Nat)   : ∀ (n : Nat) (l0 : Nat) (l1 : Int32) (l2 : Int32) (l3 : Option Nat) (l4 : Int32) (h : zH) (r : Int32 × zH), fS_greatestOfShelf_7 N n  l0 l1 l2 l3 l4 h = some r → zt xs (3) 38 7 [(0, .ref l0), (1, .int l1), (2, .int l2), (3, va_rf l3), (4, .int l4)] [] h 0 0 (zQ cI r) := by
  have hy := mfS_greatestOfShelf
  intro n
  induction n with
  | zero =>
    intro l0 l1 l2 l3 l4 h r e
    rw [fS_greatestOfShelf_7] at e
    cases e
  | succ n ih =>
    intro l0 l1 l2 l3 l4 h r e
    rw [fS_greatestOfShelf_7] at e
    exact zl hy 2 (pc2 := 10) (lv2 := [(0, .ref l0), (1, .int l1), (2, .int l2), (3, va_rf l3), (4, .int l4)]) (st2 := [.ref l0, .int l4]) rfl <| zx_gI hy rfl e fun x1 _ e => zx_c hy rfl e (fun _ e => zl hy 1 (pc2 := 79) (lv2 := [(0, .ref l0), (1, .int l1), (2, .int l2), (3, va_rf l3), (4, .int l4)]) (st2 := [.int l2]) rfl <| zx_ret hy rfl rfl rfl rfl e) (fun _ e => zl hy 5 (pc2 := 22) (lv2 := [(0, .ref l0), (1, .int l1), (2, .int l2), (3, va_rf l3), (4, .int l4)]) (st2 := [.int ((l1 >>> (l4 &&& 31)) &&& (Int32.ofInt 1))]) rfl <| zx_c0 hy rfl e (fun _ e => zl hy 1 (pc2 := 35) (lv2 := [(0, .ref l0), (1, .int l1), (2, .int l2), (3, va_rf l3), (4, .int l4)]) (st2 := [.null]) rfl <| zt_sub (z_fc rfl (z_fc rfl (z_fc rfl (z_fc rfl (z_fc rfl (z_fn)))))) <| sfS_greatestOfShelf_35 N (fS_greatestOfShelf_7 N n ) ih l0 l1 l2 l3 l4 none h _ e) (fun _ e => zl hy 2 (pc2 := 28) (lv2 := [(0, .ref l0), (1, .int l1), (2, .int l2), (3, va_rf l3), (4, .int l4)]) (st2 := [.int l4, .ref l0]) rfl <| zx_call hy (as := [.ref l0, .int l4]) (rest := []) (ov := (fun v => some (va_rf v))) (fun _ => rfl) rfl rfl (Or.inl rfl) rfl rfl (Nat.le_of_ble_eq_true rfl) (Nat.le_of_ble_eq_true rfl) (fun _ e _ => z_rcvT (rfS_keptAt N l0 l4 h _ e)) (fun _ e => zt_deep (Nat.le_of_ble_eq_true rfl) (sfS_keptAt N l0 l4 h _ e)) e fun x2 h3 _ e => (match x2, e with | none, e => zl hy 1 (pc2 := 35) (lv2 := [(0, .ref l0), (1, .int l1), (2, .int l2), (3, va_rf l3), (4, .int l4)]) (st2 := [.null]) rfl <| zt_sub (z_fc rfl (z_fc rfl (z_fc rfl (z_fc rfl (z_fc rfl (z_fn)))))) <| sfS_greatestOfShelf_35 N (fS_greatestOfShelf_7 N n ) ih l0 l1 l2 l3 l4 none h3 _ e | some x4, e => zl hy 1 (pc2 := 35) (lv2 := [(0, .ref l0), (1, .int l1), (2, .int l2), (3, va_rf l3), (4, .int l4)]) (st2 := [.ref x4]) rfl <| zt_sub (z_fc rfl (z_fc rfl (z_fc rfl (z_fc rfl (z_fc rfl (z_fn)))))) <| sfS_greatestOfShelf_35 N (fS_greatestOfShelf_7 N n ) ih l0 l1 l2 l3 l4 (some x4) h3 _ e)))
def fS_greatestOfShelf (N : Nat) (l0 : Nat) (l1 : Int32) (h : zH) : Option (Int32 × zH) := cond (fT h l0 3) (fS_greatestOfShelf_7 N N  l0 l1 (Int32.ofInt (-1)) none (Int32.ofInt 0) h) none
theorem sfS_greatestOfShelf {xs : List Int32} (N : Nat) (l0 : Nat) (l1 : Int32) (h : zH) (r : Int32 × zH) (e : fS_greatestOfShelf N l0 l1 h = some r) : zt xs (3) 38 0 [(0, .ref l0), (1, .int l1)] [] h 0 0 (zQ cI r) := by
  have hy := mfS_greatestOfShelf
  unfold fS_greatestOfShelf at e
  replace e := (cond_some e).2
  exact zl hy 6 (pc2 := 7) (lv2 := [(4, .int (Int32.ofInt 0)), (3, .null), (2, .int (Int32.ofInt (-1))), (0, .ref l0), (1, .int l1)]) (st2 := []) rfl <| zt_sub (z_fc rfl (z_fc rfl (z_fc rfl (z_fc rfl (z_fc rfl (z_fn)))))) <| sfS_greatestOfShelf_7 N   N l0 l1 (Int32.ofInt (-1)) none (Int32.ofInt 0) h _ e
theorem rfS_greatestOfShelf (N : Nat) (l0 : Nat) (l1 : Int32) (h : zH) (r : Int32 × zH) (e : fS_greatestOfShelf N l0 l1 h = some r) : fT h l0 3 = true := by
  unfold fS_greatestOfShelf at e
  exact (cond_some e).1
/-- LyndonBench$State.joinShelf()V -/
theorem mfS_joinShelf : z_me 40 zc_40 5 [] none := ⟨z_me0 rfl, rfl, rfl, rfl⟩
def fS_joinShelf_58 (N : Nat) (k11 : Nat → Int32 → Int32 → zH → Option (Unit × zH)) (l0 : Nat) (l1 : Int32) (l2 : Int32) (h : zH) : Option (Unit × zH) := k11 l0 l1 (l2 + Int32.ofInt 1) h
theorem sfS_joinShelf_58 {xs : List Int32} (N : Nat) (k11 : Nat → Int32 → Int32 → zH → Option (Unit × zH))  (hk11 : ∀ (l0 : Nat) (l1 : Int32) (l2 : Int32) (h : zH) (r : Unit × zH), k11 l0 l1 l2 h = some r → zt xs (4) 40 11 [(0, .ref l0), (1, .int l1), (2, .int l2)] [] h 0 0 (zQ cV r)) (l0 : Nat) (l1 : Int32) (l2 : Int32) (h : zH) (r : Unit × zH) (e : fS_joinShelf_58 N k11 l0 l1 l2 h = some r) : zt xs (4) 40 58 [(0, .ref l0), (1, .int l1), (2, .int l2)] [] h 0 0 (zQ cV r) := by
  have hy := mfS_joinShelf
  unfold fS_joinShelf_58 at e
  exact zl hy 2 (pc2 := 11) (lv2 := [(2, .int (l2 + Int32.ofInt 1)), (0, .ref l0), (1, .int l1)]) (st2 := []) rfl <| zt_sub (z_fc rfl (z_fc rfl (z_fc rfl (z_fn)))) <| hk11 l0 l1 (l2 + Int32.ofInt 1) h _ e
def fS_joinShelf_11 (N : Nat) : Nat → Nat → Int32 → Int32 → zH → Option (Unit × zH)
  | 0, _, _, _, _ => none
  | n + 1, l0, l1, l2, h => b1 (fI h l0 3 3) fun x4 => cond (z_cmp .ge l2 x4) (some ((), h)) (b2 (fS_greatestOfShelf N l0 l1 h) fun x5 h6 => b2 (fS_keptAt N l0 x5 h6) fun x7 h8 => (match x7 with | none => fS_joinShelf_58 N (fS_joinShelf_11 N n ) l0 l1 l2 h8 | some x9 => cond (fX h8 x9) (b1 (fR h8 l0 3 1) fun x10 => b1 (fI h8 x9 4 1) fun x11 => b2 (fW_addPart N x10 x9 (Int32.ofInt 0) x11 h8) fun _ h13 => fS_joinShelf_58 N (fS_joinShelf_11 N n ) l0 (l1 ||| ((Int32.ofInt 1) <<< (x5 &&& 31))) l2 h13) none))
theorem sfS_joinShelf_11 {xs : List Int32} (N : Nat)   : ∀ (n : Nat) (l0 : Nat) (l1 : Int32) (l2 : Int32) (h : zH) (r : Unit × zH), fS_joinShelf_11 N n  l0 l1 l2 h = some r → zt xs (4) 40 11 [(0, .ref l0), (1, .int l1), (2, .int l2)] [] h 0 0 (zQ cV r) := by
  have hy := mfS_joinShelf
  intro n
  induction n with
  | zero =>
    intro l0 l1 l2 h r e
    rw [fS_joinShelf_11] at e
    cases e
  | succ n ih =>
    intro l0 l1 l2 h r e
    rw [fS_joinShelf_11] at e
    exact zl hy 2 (pc2 := 13) (lv2 := [(0, .ref l0), (1, .int l1), (2, .int l2)]) (st2 := [.ref l0, .int l2]) rfl <| zx_gI hy rfl e fun x4 _ e => zx_c hy rfl e (fun _ e => zx_retV hy rfl rfl e) (fun _ e => zl hy 2 (pc2 := 21) (lv2 := [(0, .ref l0), (1, .int l1), (2, .int l2)]) (st2 := [.int l1, .ref l0]) rfl <| zx_call hy (as := [.ref l0, .int l1]) (rest := []) (ov := (fun v => some (.int v))) (fun _ => rfl) rfl rfl (Or.inl rfl) rfl rfl (Nat.le_of_ble_eq_true rfl) (Nat.le_of_ble_eq_true rfl) (fun _ e _ => z_rcvT (rfS_greatestOfShelf N l0 l1 h _ e)) (fun _ e => zt_deep (Nat.le_of_ble_eq_true rfl) (sfS_greatestOfShelf N l0 l1 h _ e)) e fun x5 h6 _ e => zl hy 3 (pc2 := 27) (lv2 := [(3, .int x5), (0, .ref l0), (1, .int l1), (2, .int l2)]) (st2 := [.int x5, .ref l0]) rfl <| zx_call hy (as := [.ref l0, .int x5]) (rest := []) (ov := (fun v => some (va_rf v))) (fun _ => rfl) rfl rfl (Or.inl rfl) rfl rfl (Nat.le_of_ble_eq_true rfl) (Nat.le_of_ble_eq_true rfl) (fun _ e _ => z_rcvT (rfS_keptAt N l0 x5 h6 _ e)) (fun _ e => zt_deep (Nat.le_of_ble_eq_true rfl) (sfS_keptAt N l0 x5 h6 _ e)) e fun x7 h8 _ e => (match x7, e with | none, e => zl hy 2 (pc2 := 34) (lv2 := [(4, .null), (3, .int x5), (0, .ref l0), (1, .int l1), (2, .int l2)]) (st2 := [.null]) rfl <| zx_nullN hy rfl <| zt_sub (z_fc rfl (z_fc rfl (z_fc rfl (z_fn)))) <| sfS_joinShelf_58 N (fS_joinShelf_11 N n ) ih l0 l1 l2 h8 _ e | some x9, e => zl hy 2 (pc2 := 34) (lv2 := [(4, .ref x9), (3, .int x5), (0, .ref l0), (1, .int l1), (2, .int l2)]) (st2 := [.ref x9]) rfl <| zx_nullR hy rfl e fun e => zl hy 1 (pc2 := 38) (lv2 := [(4, .ref x9), (3, .int x5), (0, .ref l0), (1, .int l1), (2, .int l2)]) (st2 := [.ref l0]) rfl <| zx_gR hy rfl e fun x10 _ e => zl hy 3 (pc2 := 46) (lv2 := [(4, .ref x9), (3, .int x5), (0, .ref l0), (1, .int l1), (2, .int l2)]) (st2 := [.ref x9, .int (Int32.ofInt 0), .ref x9, .ref x10]) rfl <| zx_gI hy rfl e fun x11 _ e => zx_call hy (as := [.ref x10, .ref x9, .int (Int32.ofInt 0), .int x11]) (rest := []) (ov := (fun _ => none)) (fun _ => rfl) rfl rfl (Or.inl rfl) rfl rfl (Nat.le_of_ble_eq_true rfl) (Nat.le_of_ble_eq_true rfl) (fun _ e _ => z_rcvT (rfW_addPart N x10 x9 (Int32.ofInt 0) x11 h8 _ e)) (fun _ e => zt_deep (Nat.le_of_ble_eq_true rfl) (sfW_addPart N x10 x9 (Int32.ofInt 0) x11 h8 _ e)) e fun _ h13 _ e => zl hy 6 (pc2 := 58) (lv2 := [(1, .int (l1 ||| ((Int32.ofInt 1) <<< (x5 &&& 31)))), (4, .ref x9), (3, .int x5), (0, .ref l0), (2, .int l2)]) (st2 := []) rfl <| zt_sub (z_fc rfl (z_fc rfl (z_fc rfl (z_fn)))) <| sfS_joinShelf_58 N (fS_joinShelf_11 N n ) ih l0 (l1 ||| ((Int32.ofInt 1) <<< (x5 &&& 31))) l2 h13 _ e))
def fS_joinShelf (N : Nat) (l0 : Nat) (h : zH) : Option (Unit × zH) := cond (fT h l0 3) (b1 (fR h l0 3 1) fun x1 => b2 (fW_clear N x1 h) fun _ h3 => fS_joinShelf_11 N N  l0 (Int32.ofInt 0) (Int32.ofInt 0) h3) none
theorem sfS_joinShelf {xs : List Int32} (N : Nat) (l0 : Nat) (h : zH) (r : Unit × zH) (e : fS_joinShelf N l0 h = some r) : zt xs (4) 40 0 [(0, .ref l0)] [] h 0 0 (zQ cV r) := by
  have hy := mfS_joinShelf
  unfold fS_joinShelf at e
  replace e := (cond_some e).2
  exact zl hy 1 (pc2 := 1) (lv2 := [(0, .ref l0)]) (st2 := [.ref l0]) rfl <| zx_gR hy rfl e fun x1 _ e => zx_call hy (as := [.ref x1]) (rest := []) (ov := (fun _ => none)) (fun _ => rfl) rfl rfl (Or.inl rfl) rfl rfl (Nat.le_of_ble_eq_true rfl) (Nat.le_of_ble_eq_true rfl) (fun _ e _ => z_rcvT (rfW_clear N x1 h _ e)) (fun _ e => zt_deep (Nat.le_of_ble_eq_true rfl) (sfW_clear N x1 h _ e)) e fun _ h3 _ e => zl hy 4 (pc2 := 11) (lv2 := [(2, .int (Int32.ofInt 0)), (1, .int (Int32.ofInt 0)), (0, .ref l0)]) (st2 := []) rfl <| zt_sub (z_fc rfl (z_fc rfl (z_fc rfl (z_fn)))) <| sfS_joinShelf_11 N   N l0 (Int32.ofInt 0) (Int32.ofInt 0) h3 _ e
theorem rfS_joinShelf (N : Nat) (l0 : Nat) (h : zH) (r : Unit × zH) (e : fS_joinShelf N l0 h = some r) : fT h l0 3 = true := by
  unfold fS_joinShelf at e
  exact (cond_some e).1
/-- LyndonBench$Script.runJoin()Z -/
theorem mfC_runJoin : z_me 20 zc_20 1 [] (some .boolean) := ⟨z_me0 rfl, rfl, rfl, rfl⟩
def fC_runJoin (N : Nat) (l0 : Nat) (h : zH) : Option (Int32 × zH) := cond (fT h l0 2) (b1 (fR h l0 2 1) fun x1 => b2 (fS_canJoin N x1 h) fun x2 h3 => b2 (fC_expectEnd N l0 x2 h3) fun x4 h5 => cond (z_cmp .ne x4 (Int32.ofInt 0)) (b1 (fR h5 l0 2 1) fun x6 => b2 (fS_joinShelf N x6 h5) fun _ h8 => some ((Int32.ofInt 1), h8)) (some ((Int32.ofInt 0), h5))) none
theorem sfC_runJoin {xs : List Int32} (N : Nat) (l0 : Nat) (h : zH) (r : Int32 × zH) (e : fC_runJoin N l0 h = some r) : zt xs (5) 20 0 [(0, .ref l0)] [] h 0 0 (zQ cI r) := by
  have hy := mfC_runJoin
  unfold fC_runJoin at e
  replace e := (cond_some e).2
  exact zl hy 2 (pc2 := 2) (lv2 := [(0, .ref l0)]) (st2 := [.ref l0, .ref l0]) rfl <| zx_gR hy rfl e fun x1 _ e => zx_call hy (as := [.ref x1]) (rest := [.ref l0]) (ov := (fun v => some (.int v))) (fun _ => rfl) rfl rfl (Or.inl rfl) rfl rfl (Nat.le_of_ble_eq_true rfl) (Nat.le_of_ble_eq_true rfl) (fun _ e _ => z_rcvT (rfS_canJoin N x1 h _ e)) (fun _ e => zt_deep (Nat.le_of_ble_eq_true rfl) (sfS_canJoin N x1 h _ e)) e fun x2 h3 _ e => zx_call hy (as := [.ref l0, .int x2]) (rest := []) (ov := (fun v => some (.int v))) (fun _ => rfl) rfl rfl (Or.inl rfl) rfl rfl (Nat.le_of_ble_eq_true rfl) (Nat.le_of_ble_eq_true rfl) (fun _ e _ => z_rcvT (rfC_expectEnd N l0 x2 h3 _ e)) (fun _ e => zt_deep (Nat.le_of_ble_eq_true rfl) (sfC_expectEnd N l0 x2 h3 _ e)) e fun x4 h5 _ e => zx_c0 hy rfl e (fun _ e => zl hy 1 (pc2 := 17) (lv2 := [(0, .ref l0)]) (st2 := [.ref l0]) rfl <| zx_gR hy rfl e fun x6 _ e => zx_call hy (as := [.ref x6]) (rest := []) (ov := (fun _ => none)) (fun _ => rfl) rfl rfl (Or.inl rfl) rfl rfl (Nat.le_of_ble_eq_true rfl) (Nat.le_of_ble_eq_true rfl) (fun _ e _ => z_rcvT (rfS_joinShelf N x6 h5 _ e)) (fun _ e => zt_deep (Nat.le_of_ble_eq_true rfl) (sfS_joinShelf N x6 h5 _ e)) e fun _ h8 _ e => zl hy 1 (pc2 := 24) (lv2 := [(0, .ref l0)]) (st2 := [.int (Int32.ofInt 1)]) rfl <| zx_ret hy (v := .int (Int32.ofInt 1)) rfl rfl (by decide) rfl e) (fun _ e => zl hy 1 (pc2 := 15) (lv2 := [(0, .ref l0)]) (st2 := [.int (Int32.ofInt 0)]) rfl <| zx_ret hy (v := .int (Int32.ofInt 0)) rfl rfl (by decide) rfl e)
theorem rfC_runJoin (N : Nat) (l0 : Nat) (h : zH) (r : Int32 × zH) (e : fC_runJoin N l0 h = some r) : fT h l0 2 = true := by
  unfold fC_runJoin at e
  exact (cond_some e).1
/-- LyndonBench$Script.runCommand()Z -/
theorem mfC_runCommand : z_me 8 zc_8 2 [] (some .boolean) := ⟨z_me0 rfl, rfl, rfl, rfl⟩
def fC_runCommand_27 (N : Nat)  (l0 : Nat) (s0 : Option Nat) (h : zH) : Option (Int32 × zH) := (match s0 with | none => b2 (fC_fail N l0 (Int32.ofInt 1) h) fun x3 h4 => cond (decide (x3 = Int32.ofInt 0) || decide (x3 = Int32.ofInt 1)) (some (x3, h4)) none | some x2 => cond (fX h x2) (cond (Nat.ble 1000000 x2 && Nat.blt x2 1000012 && Nat.ble 1000000 1000011 && Nat.blt 1000011 1000012) (cond (Nat.beq x2 1000011) (b2 (fC_openRepeat N l0 h) fun x5 h6 => cond (decide (x5 = Int32.ofInt 0) || decide (x5 = Int32.ofInt 1)) (some (x5, h6)) none) (b1 (fI h l0 2 8) fun x7 => cond (z_cmp .lt x7 (Int32.ofInt 200)) (b1 (fI h l0 2 8) fun x8 => b1 (fS h l0 2 8 (.int (x8 + (Int32.ofInt 1)))) fun h9 => b2 (fJ_ordinal N x2 h9) fun x10 h11 => b1 (fAI h11 1000015 100 x10) fun x12 => cond (decide ((x12).toInt < 1) || decide (10 < (x12).toInt)) (b2 (fC_runJoin N l0 h11) fun x13 h14 => cond (decide (x13 = Int32.ofInt 0) || decide (x13 = Int32.ofInt 1)) (some (x13, h14)) none) (z_nth [b2 (fC_runText N l0 (Int32.ofInt 0) h11) fun x15 h16 => cond (decide (x15 = Int32.ofInt 0) || decide (x15 = Int32.ofInt 1)) (some (x15, h16)) none, b2 (fC_runText N l0 (Int32.ofInt 1) h11) fun x17 h18 => cond (decide (x17 = Int32.ofInt 0) || decide (x17 = Int32.ofInt 1)) (some (x17, h18)) none, b2 (fC_runDrop N l0 h11) fun x19 h20 => cond (decide (x19 = Int32.ofInt 0) || decide (x19 = Int32.ofInt 1)) (some (x19, h20)) none, b2 (fC_runPart N l0 h11) fun x21 h22 => cond (decide (x21 = Int32.ofInt 0) || decide (x21 = Int32.ofInt 1)) (some (x21, h22)) none, b2 (fC_runRotate N l0 h11) fun x23 h24 => cond (decide (x23 = Int32.ofInt 0) || decide (x23 = Int32.ofInt 1)) (some (x23, h24)) none, b2 (fC_runReverse N l0 h11) fun x25 h26 => cond (decide (x25 = Int32.ofInt 0) || decide (x25 = Int32.ofInt 1)) (some (x25, h26)) none, b2 (fC_runLeast N l0 h11) fun x27 h28 => cond (decide (x27 = Int32.ofInt 0) || decide (x27 = Int32.ofInt 1)) (some (x27, h28)) none, b2 (fC_runNext N l0 h11) fun x29 h30 => cond (decide (x29 = Int32.ofInt 0) || decide (x29 = Int32.ofInt 1)) (some (x29, h30)) none, b2 (fC_runKeep N l0 h11) fun x31 h32 => cond (decide (x31 = Int32.ofInt 0) || decide (x31 = Int32.ofInt 1)) (some (x31, h32)) none, b2 (fC_runRemove N l0 h11) fun x33 h34 => cond (decide (x33 = Int32.ofInt 0) || decide (x33 = Int32.ofInt 1)) (some (x33, h34)) none] ((x12).toInt - 1).toNat none)) (b2 (fC_fail N l0 (Int32.ofInt 5) h) fun x35 h36 => cond (decide (x35 = Int32.ofInt 0) || decide (x35 = Int32.ofInt 1)) (some (x35, h36)) none))) none) none)
theorem sfC_runCommand_27 {xs : List Int32} (N : Nat)   (l0 : Nat) (s0 : Option Nat) (h : zH) (r : Int32 × zH) (e : fC_runCommand_27 N  l0 s0 h = some r) : zt xs (7) 8 27 [(0, .ref l0)] [va_rf s0] h 0 0 (zQ cI r) := by
  have hy := mfC_runCommand
  unfold fC_runCommand_27 at e
  exact (match s0, e with | none, e => zl hy 2 (pc2 := 29) (lv2 := [(1, .null), (0, .ref l0)]) (st2 := [.null]) rfl <| zx_nonnullN hy rfl <| zl hy 2 (pc2 := 34) (lv2 := [(1, .null), (0, .ref l0)]) (st2 := [.int (Int32.ofInt 1), .ref l0]) rfl <| zx_call hy (as := [.ref l0, .int (Int32.ofInt 1)]) (rest := []) (ov := (fun v => some (.int v))) (fun _ => rfl) rfl rfl (Or.inl rfl) rfl rfl (Nat.le_of_ble_eq_true rfl) (Nat.le_of_ble_eq_true rfl) (fun _ e _ => z_rcvT (rfC_fail N l0 (Int32.ofInt 1) h _ e)) (fun _ e => zt_deep (Nat.le_of_ble_eq_true rfl) (sfC_fail N l0 (Int32.ofInt 1) h _ e)) e fun x3 h4 _ e => zx_retB hy rfl rfl e | some x2, e => zl hy 2 (pc2 := 29) (lv2 := [(1, .ref x2), (0, .ref l0)]) (st2 := [.ref x2]) rfl <| zx_nonnullR hy rfl e fun e => zl hy 1 (pc2 := 39) (lv2 := [(1, .ref x2), (0, .ref l0)]) (st2 := [.ref x2]) rfl <| zx_gs hy (v := .ref 1000011) rfl rfl rfl <| zx_acmp hy rfl e (fun _ e => zl hy 1 (pc2 := 46) (lv2 := [(1, .ref x2), (0, .ref l0)]) (st2 := [.ref l0]) rfl <| zx_call hy (as := [.ref l0]) (rest := []) (ov := (fun v => some (.int v))) (fun _ => rfl) rfl rfl (Or.inl rfl) rfl rfl (Nat.le_of_ble_eq_true rfl) (Nat.le_of_ble_eq_true rfl) (fun _ e _ => z_rcvT (rfC_openRepeat N l0 h _ e)) (fun _ e => zt_deep (Nat.le_of_ble_eq_true rfl) (sfC_openRepeat N l0 h _ e)) e fun x5 h6 _ e => zx_retB hy rfl rfl e) (fun _ e => zl hy 1 (pc2 := 51) (lv2 := [(1, .ref x2), (0, .ref l0)]) (st2 := [.ref l0]) rfl <| zx_gI hy rfl e fun x7 _ e => zx_sip hy (c := 200) rfl (by decide) <| zx_c hy rfl e (fun _ e => zl hy 2 (pc2 := 68) (lv2 := [(1, .ref x2), (0, .ref l0)]) (st2 := [.ref l0, .ref l0]) rfl <| zx_gI hy rfl e fun x8 _ e => zl hy 2 (pc2 := 73) (lv2 := [(1, .ref x2), (0, .ref l0)]) (st2 := [.int (x8 + (Int32.ofInt 1)), .ref l0]) rfl <| zx_pf hy rfl e (rfl) fun h9 _ e => zx_gs hy (v := .ref 1000015) rfl rfl rfl <| zl hy 1 (pc2 := 80) (lv2 := [(1, .ref x2), (0, .ref l0)]) (st2 := [.ref x2, .ref 1000015]) rfl <| zx_call hy (as := [.ref x2]) (rest := [.ref 1000015]) (ov := (fun v => some (.int v))) (fun _ => rfl) rfl rfl (Or.inr (Or.inr rfl)) rfl rfl (Nat.le_of_ble_eq_true rfl) (Nat.le_of_ble_eq_true rfl) (fun _ e _ => z_rcvT (rfJ_ordinal N x2 h9 _ e)) (fun _ e => zt_deep (Nat.le_of_ble_eq_true rfl) (sfJ_ordinal N x2 h9 _ e)) e fun x10 h11 _ e => zx_aI hy (j := .iaload) (Or.inl ⟨rfl, rfl⟩) rfl e fun x12 _ e => zx_tsw hy [140, 146, 152, 157, 162, 167, 172, 177, 182, 187] 192 rfl rfl rfl e (fun e => zl hy 1 (pc2 := 193) (lv2 := [(1, .ref x2), (0, .ref l0)]) (st2 := [.ref l0]) rfl <| zx_call hy (as := [.ref l0]) (rest := []) (ov := (fun v => some (.int v))) (fun _ => rfl) rfl rfl (Or.inl rfl) rfl rfl (Nat.le_of_ble_eq_true rfl) (Nat.le_of_ble_eq_true rfl) (fun _ e _ => z_rcvT (rfC_runJoin N l0 h11 _ e)) (fun _ e => zt_deep (Nat.le_of_ble_eq_true rfl) (sfC_runJoin N l0 h11 _ e)) e fun x13 h14 _ e => zx_retB hy rfl rfl e) ⟨fun e => zl hy 2 (pc2 := 142) (lv2 := [(1, .ref x2), (0, .ref l0)]) (st2 := [.int (Int32.ofInt 0), .ref l0]) rfl <| zx_call hy (as := [.ref l0, .int (Int32.ofInt 0)]) (rest := []) (ov := (fun v => some (.int v))) (fun _ => rfl) rfl rfl (Or.inl rfl) rfl rfl (Nat.le_of_ble_eq_true rfl) (Nat.le_of_ble_eq_true rfl) (fun _ e _ => z_rcvT (rfC_runText N l0 (Int32.ofInt 0) h11 _ e)) (fun _ e => zt_deep (Nat.le_of_ble_eq_true rfl) (sfC_runText N l0 (Int32.ofInt 0) h11 _ e)) e fun x15 h16 _ e => zx_retB hy rfl rfl e, ⟨fun e => zl hy 2 (pc2 := 148) (lv2 := [(1, .ref x2), (0, .ref l0)]) (st2 := [.int (Int32.ofInt 1), .ref l0]) rfl <| zx_call hy (as := [.ref l0, .int (Int32.ofInt 1)]) (rest := []) (ov := (fun v => some (.int v))) (fun _ => rfl) rfl rfl (Or.inl rfl) rfl rfl (Nat.le_of_ble_eq_true rfl) (Nat.le_of_ble_eq_true rfl) (fun _ e _ => z_rcvT (rfC_runText N l0 (Int32.ofInt 1) h11 _ e)) (fun _ e => zt_deep (Nat.le_of_ble_eq_true rfl) (sfC_runText N l0 (Int32.ofInt 1) h11 _ e)) e fun x17 h18 _ e => zx_retB hy rfl rfl e, ⟨fun e => zl hy 1 (pc2 := 153) (lv2 := [(1, .ref x2), (0, .ref l0)]) (st2 := [.ref l0]) rfl <| zx_call hy (as := [.ref l0]) (rest := []) (ov := (fun v => some (.int v))) (fun _ => rfl) rfl rfl (Or.inl rfl) rfl rfl (Nat.le_of_ble_eq_true rfl) (Nat.le_of_ble_eq_true rfl) (fun _ e _ => z_rcvT (rfC_runDrop N l0 h11 _ e)) (fun _ e => zt_deep (Nat.le_of_ble_eq_true rfl) (sfC_runDrop N l0 h11 _ e)) e fun x19 h20 _ e => zx_retB hy rfl rfl e, ⟨fun e => zl hy 1 (pc2 := 158) (lv2 := [(1, .ref x2), (0, .ref l0)]) (st2 := [.ref l0]) rfl <| zx_call hy (as := [.ref l0]) (rest := []) (ov := (fun v => some (.int v))) (fun _ => rfl) rfl rfl (Or.inl rfl) rfl rfl (Nat.le_of_ble_eq_true rfl) (Nat.le_of_ble_eq_true rfl) (fun _ e _ => z_rcvT (rfC_runPart N l0 h11 _ e)) (fun _ e => zt_deep (Nat.le_of_ble_eq_true rfl) (sfC_runPart N l0 h11 _ e)) e fun x21 h22 _ e => zx_retB hy rfl rfl e, ⟨fun e => zl hy 1 (pc2 := 163) (lv2 := [(1, .ref x2), (0, .ref l0)]) (st2 := [.ref l0]) rfl <| zx_call hy (as := [.ref l0]) (rest := []) (ov := (fun v => some (.int v))) (fun _ => rfl) rfl rfl (Or.inl rfl) rfl rfl (Nat.le_of_ble_eq_true rfl) (Nat.le_of_ble_eq_true rfl) (fun _ e _ => z_rcvT (rfC_runRotate N l0 h11 _ e)) (fun _ e => zt_deep (Nat.le_of_ble_eq_true rfl) (sfC_runRotate N l0 h11 _ e)) e fun x23 h24 _ e => zx_retB hy rfl rfl e, ⟨fun e => zl hy 1 (pc2 := 168) (lv2 := [(1, .ref x2), (0, .ref l0)]) (st2 := [.ref l0]) rfl <| zx_call hy (as := [.ref l0]) (rest := []) (ov := (fun v => some (.int v))) (fun _ => rfl) rfl rfl (Or.inl rfl) rfl rfl (Nat.le_of_ble_eq_true rfl) (Nat.le_of_ble_eq_true rfl) (fun _ e _ => z_rcvT (rfC_runReverse N l0 h11 _ e)) (fun _ e => zt_deep (Nat.le_of_ble_eq_true rfl) (sfC_runReverse N l0 h11 _ e)) e fun x25 h26 _ e => zx_retB hy rfl rfl e, ⟨fun e => zl hy 1 (pc2 := 173) (lv2 := [(1, .ref x2), (0, .ref l0)]) (st2 := [.ref l0]) rfl <| zx_call hy (as := [.ref l0]) (rest := []) (ov := (fun v => some (.int v))) (fun _ => rfl) rfl rfl (Or.inl rfl) rfl rfl (Nat.le_of_ble_eq_true rfl) (Nat.le_of_ble_eq_true rfl) (fun _ e _ => z_rcvT (rfC_runLeast N l0 h11 _ e)) (fun _ e => zt_deep (Nat.le_of_ble_eq_true rfl) (sfC_runLeast N l0 h11 _ e)) e fun x27 h28 _ e => zx_retB hy rfl rfl e, ⟨fun e => zl hy 1 (pc2 := 178) (lv2 := [(1, .ref x2), (0, .ref l0)]) (st2 := [.ref l0]) rfl <| zx_call hy (as := [.ref l0]) (rest := []) (ov := (fun v => some (.int v))) (fun _ => rfl) rfl rfl (Or.inl rfl) rfl rfl (Nat.le_of_ble_eq_true rfl) (Nat.le_of_ble_eq_true rfl) (fun _ e _ => z_rcvT (rfC_runNext N l0 h11 _ e)) (fun _ e => zt_deep (Nat.le_of_ble_eq_true rfl) (sfC_runNext N l0 h11 _ e)) e fun x29 h30 _ e => zx_retB hy rfl rfl e, ⟨fun e => zl hy 1 (pc2 := 183) (lv2 := [(1, .ref x2), (0, .ref l0)]) (st2 := [.ref l0]) rfl <| zx_call hy (as := [.ref l0]) (rest := []) (ov := (fun v => some (.int v))) (fun _ => rfl) rfl rfl (Or.inl rfl) rfl rfl (Nat.le_of_ble_eq_true rfl) (Nat.le_of_ble_eq_true rfl) (fun _ e _ => z_rcvT (rfC_runKeep N l0 h11 _ e)) (fun _ e => zt_deep (Nat.le_of_ble_eq_true rfl) (sfC_runKeep N l0 h11 _ e)) e fun x31 h32 _ e => zx_retB hy rfl rfl e, ⟨fun e => zl hy 1 (pc2 := 188) (lv2 := [(1, .ref x2), (0, .ref l0)]) (st2 := [.ref l0]) rfl <| zx_call hy (as := [.ref l0]) (rest := []) (ov := (fun v => some (.int v))) (fun _ => rfl) rfl rfl (Or.inl rfl) rfl rfl (Nat.le_of_ble_eq_true rfl) (Nat.le_of_ble_eq_true rfl) (fun _ e _ => z_rcvT (rfC_runRemove N l0 h11 _ e)) (fun _ e => zt_deep (Nat.le_of_ble_eq_true rfl) (sfC_runRemove N l0 h11 _ e)) e fun x33 h34 _ e => zx_retB hy rfl rfl e, trivial⟩⟩⟩⟩⟩⟩⟩⟩⟩⟩) (fun _ e => zl hy 2 (pc2 := 62) (lv2 := [(1, .ref x2), (0, .ref l0)]) (st2 := [.int (Int32.ofInt 5), .ref l0]) rfl <| zx_call hy (as := [.ref l0, .int (Int32.ofInt 5)]) (rest := []) (ov := (fun v => some (.int v))) (fun _ => rfl) rfl rfl (Or.inl rfl) rfl rfl (Nat.le_of_ble_eq_true rfl) (Nat.le_of_ble_eq_true rfl) (fun _ e _ => z_rcvT (rfC_fail N l0 (Int32.ofInt 5) h _ e)) (fun _ e => zt_deep (Nat.le_of_ble_eq_true rfl) (sfC_fail N l0 (Int32.ofInt 5) h _ e)) e fun x35 h36 _ e => zx_retB hy rfl rfl e)))
def fC_runCommand (N : Nat) (l0 : Nat) (h : zH) : Option (Int32 × zH) := cond (fT h l0 2) (b1 (fI h l0 2 4) fun x1 => cond (z_cmp .ne x1 (Int32.ofInt 1)) (fC_runCommand_27 N  l0 none h) (b1 (fR h l0 2 0) fun x2 => b1 (fI h l0 2 5) fun x3 => b1 (fI h l0 2 6) fun x4 => b2 (fD_find N x2 x3 x4 h) fun x5 h6 => (match x5 with | none => fC_runCommand_27 N  l0 none h6 | some x7 => fC_runCommand_27 N  l0 (some x7) h6))) none
theorem sfC_runCommand {xs : List Int32} (N : Nat) (l0 : Nat) (h : zH) (r : Int32 × zH) (e : fC_runCommand N l0 h = some r) : zt xs (7) 8 0 [(0, .ref l0)] [] h 0 0 (zQ cI r) := by
  have hy := mfC_runCommand
  unfold fC_runCommand at e
  replace e := (cond_some e).2
  exact zl hy 1 (pc2 := 1) (lv2 := [(0, .ref l0)]) (st2 := [.ref l0]) rfl <| zx_gI hy rfl e fun x1 _ e => zl hy 1 (pc2 := 5) (lv2 := [(0, .ref l0)]) (st2 := [.int (Int32.ofInt 1), .int x1]) rfl <| zx_c hy rfl e (fun _ e => zl hy 1 (pc2 := 27) (lv2 := [(0, .ref l0)]) (st2 := [.null]) rfl <| zt_sub (z_fc rfl (z_fn)) <| sfC_runCommand_27 N   l0 none h _ e) (fun _ e => zl hy 1 (pc2 := 9) (lv2 := [(0, .ref l0)]) (st2 := [.ref l0]) rfl <| zx_gR hy rfl e fun x2 _ e => zl hy 1 (pc2 := 13) (lv2 := [(0, .ref l0)]) (st2 := [.ref l0, .ref x2]) rfl <| zx_gI hy rfl e fun x3 _ e => zl hy 1 (pc2 := 17) (lv2 := [(0, .ref l0)]) (st2 := [.ref l0, .int x3, .ref x2]) rfl <| zx_gI hy rfl e fun x4 _ e => zx_call hy (as := [.ref x2, .int x3, .int x4]) (rest := []) (ov := (fun v => some (va_rf v))) (fun _ => rfl) rfl rfl (Or.inr (Or.inl rfl)) rfl rfl (Nat.le_of_ble_eq_true rfl) (Nat.le_of_ble_eq_true rfl) (fun _ _ hz => absurd rfl hz) (fun _ e => zt_deep (Nat.le_of_ble_eq_true rfl) (sfD_find N x2 x3 x4 h _ e)) e fun x5 h6 _ e => (match x5, e with | none, e => zl hy 1 (pc2 := 27) (lv2 := [(0, .ref l0)]) (st2 := [.null]) rfl <| zt_sub (z_fc rfl (z_fn)) <| sfC_runCommand_27 N   l0 none h6 _ e | some x7, e => zl hy 1 (pc2 := 27) (lv2 := [(0, .ref l0)]) (st2 := [.ref x7]) rfl <| zt_sub (z_fc rfl (z_fn)) <| sfC_runCommand_27 N   l0 (some x7) h6 _ e))
theorem rfC_runCommand (N : Nat) (l0 : Nat) (h : zH) (r : Int32 × zH) (e : fC_runCommand N l0 h = some r) : fT h l0 2 = true := by
  unfold fC_runCommand at e
  exact (cond_some e).1
/-- LyndonBench$Script.run()Z -/
theorem mfC_run : z_me 6 zc_6 3 [] (some .boolean) := ⟨z_me0 rfl, rfl, rfl, rfl⟩
def fC_run_63 (N : Nat) (k11 : Nat → Int32 → zH → Option (Int32 × zH)) (l0 : Nat) (l1 : Int32) (s0 : Int32) (h : zH) : Option (Int32 × zH) := cond (z_cmp .ne s0 (Int32.ofInt 0)) (k11 l0 (l1 + Int32.ofInt 1) h) (some ((Int32.ofInt 0), h))
theorem sfC_run_63 {xs : List Int32} (N : Nat) (k11 : Nat → Int32 → zH → Option (Int32 × zH))  (hk11 : ∀ (l0 : Nat) (l1 : Int32) (h : zH) (r : Int32 × zH), k11 l0 l1 h = some r → zt xs (8) 6 11 [(0, .ref l0), (1, .int l1)] [] h 0 0 (zQ cI r)) (l0 : Nat) (l1 : Int32) (s0 : Int32) (h : zH) (r : Int32 × zH) (e : fC_run_63 N k11 l0 l1 s0 h = some r) : zt xs (8) 6 63 [(0, .ref l0), (1, .int l1)] [.int s0] h 0 0 (zQ cI r) := by
  have hy := mfC_run
  unfold fC_run_63 at e
  exact zl hy 2 (pc2 := 65) (lv2 := [(2, .int s0), (0, .ref l0), (1, .int l1)]) (st2 := [.int s0]) rfl <| zx_c0 hy rfl e (fun _ e => zl hy 2 (pc2 := 11) (lv2 := [(1, .int (l1 + Int32.ofInt 1)), (2, .int s0), (0, .ref l0)]) (st2 := []) rfl <| zt_sub (z_fc rfl (z_fc rfl (z_fn))) <| hk11 l0 (l1 + Int32.ofInt 1) h _ e) (fun _ e => zl hy 1 (pc2 := 69) (lv2 := [(2, .int s0), (0, .ref l0), (1, .int l1)]) (st2 := [.int (Int32.ofInt 0)]) rfl <| zx_ret hy (v := .int (Int32.ofInt 0)) rfl rfl (by decide) rfl e)
def fC_run_59 (N : Nat) (k11 : Nat → Int32 → zH → Option (Int32 × zH)) (l0 : Nat) (l1 : Int32) (h : zH) : Option (Int32 × zH) := b2 (fC_runCommand N l0 h) fun x9 h10 => fC_run_63 N k11 l0 l1 x9 h10
theorem sfC_run_59 {xs : List Int32} (N : Nat) (k11 : Nat → Int32 → zH → Option (Int32 × zH))  (hk11 : ∀ (l0 : Nat) (l1 : Int32) (h : zH) (r : Int32 × zH), k11 l0 l1 h = some r → zt xs (8) 6 11 [(0, .ref l0), (1, .int l1)] [] h 0 0 (zQ cI r)) (l0 : Nat) (l1 : Int32) (h : zH) (r : Int32 × zH) (e : fC_run_59 N k11 l0 l1 h = some r) : zt xs (8) 6 59 [(0, .ref l0), (1, .int l1)] [] h 0 0 (zQ cI r) := by
  have hy := mfC_run
  unfold fC_run_59 at e
  exact zl hy 1 (pc2 := 60) (lv2 := [(0, .ref l0), (1, .int l1)]) (st2 := [.ref l0]) rfl <| zx_call hy (as := [.ref l0]) (rest := []) (ov := (fun v => some (.int v))) (fun _ => rfl) rfl rfl (Or.inl rfl) rfl rfl (Nat.le_of_ble_eq_true rfl) (Nat.le_of_ble_eq_true rfl) (fun _ e _ => z_rcvT (rfC_runCommand N l0 h _ e)) (fun _ e => zt_deep (Nat.le_of_ble_eq_true rfl) (sfC_runCommand N l0 h _ e)) e fun x9 h10 _ e => zt_sub (z_fc rfl (z_fc rfl (z_fn))) <| sfC_run_63 N k11 hk11 l0 l1 x9 h10 _ e
def fC_run_37 (N : Nat) (k11 : Nat → Int32 → zH → Option (Int32 × zH)) (l0 : Nat) (l1 : Int32) (h : zH) : Option (Int32 × zH) := b1 (fI h l0 2 4) fun x8 => cond (z_cmp .ne x8 (Int32.ofInt 4)) (fC_run_59 N k11 l0 l1 h) (b1 (fI h l0 2 9) fun x9 => cond (z_cmp .le x9 (Int32.ofInt 0)) (fC_run_59 N k11 l0 l1 h) (b2 (fC_endRound N l0 h) fun x10 h11 => fC_run_63 N k11 l0 l1 x10 h11))
theorem sfC_run_37 {xs : List Int32} (N : Nat) (k11 : Nat → Int32 → zH → Option (Int32 × zH))  (hk11 : ∀ (l0 : Nat) (l1 : Int32) (h : zH) (r : Int32 × zH), k11 l0 l1 h = some r → zt xs (8) 6 11 [(0, .ref l0), (1, .int l1)] [] h 0 0 (zQ cI r)) (l0 : Nat) (l1 : Int32) (h : zH) (r : Int32 × zH) (e : fC_run_37 N k11 l0 l1 h = some r) : zt xs (8) 6 37 [(0, .ref l0), (1, .int l1)] [] h 0 0 (zQ cI r) := by
  have hy := mfC_run
  unfold fC_run_37 at e
  exact zl hy 1 (pc2 := 38) (lv2 := [(0, .ref l0), (1, .int l1)]) (st2 := [.ref l0]) rfl <| zx_gI hy rfl e fun x8 _ e => zl hy 1 (pc2 := 42) (lv2 := [(0, .ref l0), (1, .int l1)]) (st2 := [.int (Int32.ofInt 4), .int x8]) rfl <| zx_c hy rfl e (fun _ e => zt_sub (z_fc rfl (z_fc rfl (z_fn))) <| sfC_run_59 N k11 hk11 l0 l1 h _ e) (fun _ e => zl hy 1 (pc2 := 46) (lv2 := [(0, .ref l0), (1, .int l1)]) (st2 := [.ref l0]) rfl <| zx_gI hy rfl e fun x9 _ e => zx_c0 hy rfl e (fun _ e => zt_sub (z_fc rfl (z_fc rfl (z_fn))) <| sfC_run_59 N k11 hk11 l0 l1 h _ e) (fun _ e => zl hy 1 (pc2 := 53) (lv2 := [(0, .ref l0), (1, .int l1)]) (st2 := [.ref l0]) rfl <| zx_call hy (as := [.ref l0]) (rest := []) (ov := (fun v => some (.int v))) (fun _ => rfl) rfl rfl (Or.inl rfl) rfl rfl (Nat.le_of_ble_eq_true rfl) (Nat.le_of_ble_eq_true rfl) (fun _ e _ => z_rcvT (rfC_endRound N l0 h _ e)) (fun _ e => zt_deep (Nat.le_of_ble_eq_true rfl) (sfC_endRound N l0 h _ e)) e fun x10 h11 _ e => zl hy 1 (pc2 := 63) (lv2 := [(0, .ref l0), (1, .int l1)]) (st2 := [.int x10]) rfl <| zt_sub (z_fc rfl (z_fc rfl (z_fn))) <| sfC_run_63 N k11 hk11 l0 l1 x10 h11 _ e))
def fC_run_11 (N : Nat) : Nat → Nat → Int32 → zH → Option (Int32 × zH)
  | 0, _, _, _ => none
  | n + 1, l0, l1, h => cond (z_cmp .ge l1 (1000000 : Int32)) (b2 (fC_fail N l0 (Int32.ofInt 1) h) fun x3 h4 => cond (decide (x3 = Int32.ofInt 0) || decide (x3 = Int32.ofInt 1)) (some (x3, h4)) none) (b2 (fC_readToken N l0 h) fun _ h6 => b1 (fI h6 l0 2 4) fun x7 => cond (z_cmp .ne x7 (Int32.ofInt 0)) (fC_run_37 N (fC_run_11 N n ) l0 l1 h6) (b1 (fI h6 l0 2 9) fun x8 => cond (z_cmp .ne x8 (Int32.ofInt 0)) (fC_run_37 N (fC_run_11 N n ) l0 l1 h6) (some ((Int32.ofInt 1), h6))))
theorem sfC_run_11 {xs : List Int32} (N : Nat)   : ∀ (n : Nat) (l0 : Nat) (l1 : Int32) (h : zH) (r : Int32 × zH), fC_run_11 N n  l0 l1 h = some r → zt xs (8) 6 11 [(0, .ref l0), (1, .int l1)] [] h 0 0 (zQ cI r) := by
  have hy := mfC_run
  intro n
  induction n with
  | zero =>
    intro l0 l1 h r e
    rw [fC_run_11] at e
    cases e
  | succ n ih =>
    intro l0 l1 h r e
    rw [fC_run_11] at e
    exact zl hy 1 (pc2 := 12) (lv2 := [(0, .ref l0), (1, .int l1)]) (st2 := [.int l1]) rfl <| zx_ldcI hy (v := .int (1000000 : Int32)) rfl rfl <| zx_c hy rfl e (fun _ e => zl hy 2 (pc2 := 78) (lv2 := [(0, .ref l0), (1, .int l1)]) (st2 := [.int (Int32.ofInt 1), .ref l0]) rfl <| zx_call hy (as := [.ref l0, .int (Int32.ofInt 1)]) (rest := []) (ov := (fun v => some (.int v))) (fun _ => rfl) rfl rfl (Or.inl rfl) rfl rfl (Nat.le_of_ble_eq_true rfl) (Nat.le_of_ble_eq_true rfl) (fun _ e _ => z_rcvT (rfC_fail N l0 (Int32.ofInt 1) h _ e)) (fun _ e => zt_deep (Nat.le_of_ble_eq_true rfl) (sfC_fail N l0 (Int32.ofInt 1) h _ e)) e fun x3 h4 _ e => zx_retB hy rfl rfl e) (fun _ e => zl hy 1 (pc2 := 18) (lv2 := [(0, .ref l0), (1, .int l1)]) (st2 := [.ref l0]) rfl <| zx_call hy (as := [.ref l0]) (rest := []) (ov := (fun _ => none)) (fun _ => rfl) rfl rfl (Or.inl rfl) rfl rfl (Nat.le_of_ble_eq_true rfl) (Nat.le_of_ble_eq_true rfl) (fun _ e _ => z_rcvT (rfC_readToken N l0 h _ e)) (fun _ e => zt_deep (Nat.le_of_ble_eq_true rfl) (sfC_readToken N l0 h _ e)) e fun _ h6 _ e => zl hy 1 (pc2 := 22) (lv2 := [(0, .ref l0), (1, .int l1)]) (st2 := [.ref l0]) rfl <| zx_gI hy rfl e fun x7 _ e => zx_c0 hy rfl e (fun _ e => zt_sub (z_fc rfl (z_fc rfl (z_fn))) <| sfC_run_37 N (fC_run_11 N n ) ih l0 l1 h6 _ e) (fun _ e => zl hy 1 (pc2 := 29) (lv2 := [(0, .ref l0), (1, .int l1)]) (st2 := [.ref l0]) rfl <| zx_gI hy rfl e fun x8 _ e => zx_c0 hy rfl e (fun _ e => zt_sub (z_fc rfl (z_fc rfl (z_fn))) <| sfC_run_37 N (fC_run_11 N n ) ih l0 l1 h6 _ e) (fun _ e => zl hy 1 (pc2 := 36) (lv2 := [(0, .ref l0), (1, .int l1)]) (st2 := [.int (Int32.ofInt 1)]) rfl <| zx_ret hy (v := .int (Int32.ofInt 1)) rfl rfl (by decide) rfl e)))
def fC_run (N : Nat) (l0 : Nat) (h : zH) : Option (Int32 × zH) := cond (fT h l0 2) (b2 (fC_runHead N l0 h) fun x1 h2 => cond (z_cmp .ne x1 (Int32.ofInt 0)) (fC_run_11 N N  l0 (Int32.ofInt 0) h2) (some ((Int32.ofInt 0), h2))) none
theorem sfC_run {xs : List Int32} (N : Nat) (l0 : Nat) (h : zH) (r : Int32 × zH) (e : fC_run N l0 h = some r) : zt xs (8) 6 0 [(0, .ref l0)] [] h 0 0 (zQ cI r) := by
  have hy := mfC_run
  unfold fC_run at e
  replace e := (cond_some e).2
  exact zl hy 1 (pc2 := 1) (lv2 := [(0, .ref l0)]) (st2 := [.ref l0]) rfl <| zx_call hy (as := [.ref l0]) (rest := []) (ov := (fun v => some (.int v))) (fun _ => rfl) rfl rfl (Or.inl rfl) rfl rfl (Nat.le_of_ble_eq_true rfl) (Nat.le_of_ble_eq_true rfl) (fun _ e _ => z_rcvT (rfC_runHead N l0 h _ e)) (fun _ e => zt_deep (Nat.le_of_ble_eq_true rfl) (sfC_runHead N l0 h _ e)) e fun x1 h2 _ e => zx_c0 hy rfl e (fun _ e => zl hy 2 (pc2 := 11) (lv2 := [(1, .int (Int32.ofInt 0)), (0, .ref l0)]) (st2 := []) rfl <| zt_sub (z_fc rfl (z_fc rfl (z_fn))) <| sfC_run_11 N   N l0 (Int32.ofInt 0) h2 _ e) (fun _ e => zl hy 1 (pc2 := 8) (lv2 := [(0, .ref l0)]) (st2 := [.int (Int32.ofInt 0)]) rfl <| zx_ret hy (v := .int (Int32.ofInt 0)) rfl rfl (by decide) rfl e)
theorem rfC_run (N : Nat) (l0 : Nat) (h : zH) (r : Int32 × zH) (e : fC_run N l0 h = some r) : fT h l0 2 = true := by
  unfold fC_run at e
  exact (cond_some e).1
/-- LyndonBench$Word.fitsLetters(I)Z -/
theorem mfW_fitsLetters : z_me 56 zc_56 3 [] (some .boolean) := ⟨z_me0 rfl, rfl, rfl, rfl⟩
def fW_fitsLetters_2 (N : Nat) : Nat → Nat → Int32 → Int32 → zH → Option (Int32 × zH)
  | 0, _, _, _, _ => none
  | n + 1, l0, l1, l2, h => b1 (fI h l0 4 1) fun x1 => cond (z_cmp .ge l2 x1) (some ((Int32.ofInt 1), h)) (b2 (fW_at N l0 l2 h) fun x2 h3 => cond (z_cmp .lt x2 ((Int32.ofInt 97) + l1)) (fW_fitsLetters_2 N n  l0 l1 (l2 + Int32.ofInt 1) h3) (some ((Int32.ofInt 0), h3)))
theorem sfW_fitsLetters_2 {xs : List Int32} (N : Nat)   : ∀ (n : Nat) (l0 : Nat) (l1 : Int32) (l2 : Int32) (h : zH) (r : Int32 × zH), fW_fitsLetters_2 N n  l0 l1 l2 h = some r → zt xs (2) 56 2 [(0, .ref l0), (1, .int l1), (2, .int l2)] [] h 0 0 (zQ cI r) := by
  have hy := mfW_fitsLetters
  intro n
  induction n with
  | zero =>
    intro l0 l1 l2 h r e
    rw [fW_fitsLetters_2] at e
    cases e
  | succ n ih =>
    intro l0 l1 l2 h r e
    rw [fW_fitsLetters_2] at e
    exact zl hy 2 (pc2 := 4) (lv2 := [(0, .ref l0), (1, .int l1), (2, .int l2)]) (st2 := [.ref l0, .int l2]) rfl <| zx_gI hy rfl e fun x1 _ e => zx_c hy rfl e (fun _ e => zl hy 1 (pc2 := 31) (lv2 := [(0, .ref l0), (1, .int l1), (2, .int l2)]) (st2 := [.int (Int32.ofInt 1)]) rfl <| zx_ret hy (v := .int (Int32.ofInt 1)) rfl rfl (by decide) rfl e) (fun _ e => zl hy 2 (pc2 := 12) (lv2 := [(0, .ref l0), (1, .int l1), (2, .int l2)]) (st2 := [.int l2, .ref l0]) rfl <| zx_call hy (as := [.ref l0, .int l2]) (rest := []) (ov := (fun v => some (.int v))) (fun _ => rfl) rfl rfl (Or.inl rfl) rfl rfl (Nat.le_of_ble_eq_true rfl) (Nat.le_of_ble_eq_true rfl) (fun _ e _ => z_rcvT (rfW_at N l0 l2 h _ e)) (fun _ e => zt_deep (Nat.le_of_ble_eq_true rfl) (sfW_at N l0 l2 h _ e)) e fun x2 h3 _ e => zx_bip hy (c := 97) rfl (by decide) <| zl hy 2 (pc2 := 19) (lv2 := [(0, .ref l0), (1, .int l1), (2, .int l2)]) (st2 := [.int ((Int32.ofInt 97) + l1), .int x2]) rfl <| zx_c hy rfl e (fun _ e => zl hy 2 (pc2 := 2) (lv2 := [(2, .int (l2 + Int32.ofInt 1)), (0, .ref l0), (1, .int l1)]) (st2 := []) rfl <| zt_sub (z_fc rfl (z_fc rfl (z_fc rfl (z_fn)))) <| ih l0 l1 (l2 + Int32.ofInt 1) h3 _ e) (fun _ e => zl hy 1 (pc2 := 23) (lv2 := [(0, .ref l0), (1, .int l1), (2, .int l2)]) (st2 := [.int (Int32.ofInt 0)]) rfl <| zx_ret hy (v := .int (Int32.ofInt 0)) rfl rfl (by decide) rfl e))
def fW_fitsLetters (N : Nat) (l0 : Nat) (l1 : Int32) (h : zH) : Option (Int32 × zH) := cond (fT h l0 4) (fW_fitsLetters_2 N N  l0 l1 (Int32.ofInt 0) h) none
theorem sfW_fitsLetters {xs : List Int32} (N : Nat) (l0 : Nat) (l1 : Int32) (h : zH) (r : Int32 × zH) (e : fW_fitsLetters N l0 l1 h = some r) : zt xs (2) 56 0 [(0, .ref l0), (1, .int l1)] [] h 0 0 (zQ cI r) := by
  have hy := mfW_fitsLetters
  unfold fW_fitsLetters at e
  replace e := (cond_some e).2
  exact zl hy 2 (pc2 := 2) (lv2 := [(2, .int (Int32.ofInt 0)), (0, .ref l0), (1, .int l1)]) (st2 := []) rfl <| zt_sub (z_fc rfl (z_fc rfl (z_fc rfl (z_fn)))) <| sfW_fitsLetters_2 N   N l0 l1 (Int32.ofInt 0) h _ e
theorem rfW_fitsLetters (N : Nat) (l0 : Nat) (l1 : Int32) (h : zH) (r : Int32 × zH) (e : fW_fitsLetters N l0 l1 h = some r) : fT h l0 4 = true := by
  unfold fW_fitsLetters at e
  exact (cond_some e).1
/-- LyndonBench$State.fitsLetters(I)Z -/
theorem mfS_fitsLetters : z_me 33 zc_33 4 [] (some .boolean) := ⟨z_me0 rfl, rfl, rfl, rfl⟩
def fS_fitsLetters_30 (N : Nat) (k2 : Nat → Int32 → Int32 → zH → Option (Int32 × zH)) (l0 : Nat) (l1 : Int32) (l2 : Int32) (h : zH) : Option (Int32 × zH) := k2 l0 l1 (l2 + Int32.ofInt 1) h
theorem sfS_fitsLetters_30 {xs : List Int32} (N : Nat) (k2 : Nat → Int32 → Int32 → zH → Option (Int32 × zH))  (hk2 : ∀ (l0 : Nat) (l1 : Int32) (l2 : Int32) (h : zH) (r : Int32 × zH), k2 l0 l1 l2 h = some r → zt xs (3) 33 2 [(0, .ref l0), (1, .int l1), (2, .int l2)] [] h 0 0 (zQ cI r)) (l0 : Nat) (l1 : Int32) (l2 : Int32) (h : zH) (r : Int32 × zH) (e : fS_fitsLetters_30 N k2 l0 l1 l2 h = some r) : zt xs (3) 33 30 [(0, .ref l0), (1, .int l1), (2, .int l2)] [] h 0 0 (zQ cI r) := by
  have hy := mfS_fitsLetters
  unfold fS_fitsLetters_30 at e
  exact zl hy 2 (pc2 := 2) (lv2 := [(2, .int (l2 + Int32.ofInt 1)), (0, .ref l0), (1, .int l1)]) (st2 := []) rfl <| zt_sub (z_fc rfl (z_fc rfl (z_fc rfl (z_fn)))) <| hk2 l0 l1 (l2 + Int32.ofInt 1) h _ e
def fS_fitsLetters_2 (N : Nat) : Nat → Nat → Int32 → Int32 → zH → Option (Int32 × zH)
  | 0, _, _, _, _ => none
  | n + 1, l0, l1, l2, h => b1 (fI h l0 3 3) fun x1 => cond (z_cmp .ge l2 x1) (b1 (fR h l0 3 1) fun x2 => b2 (fW_fitsLetters N x2 l1 h) fun x3 h4 => cond (decide (x3 = Int32.ofInt 0) || decide (x3 = Int32.ofInt 1)) (some (x3, h4)) none) (b2 (fS_keptAt N l0 l2 h) fun x5 h6 => (match x5 with | none => fS_fitsLetters_30 N (fS_fitsLetters_2 N n ) l0 l1 l2 h6 | some x7 => cond (fX h6 x7) (b2 (fW_fitsLetters N x7 l1 h6) fun x8 h9 => cond (z_cmp .ne x8 (Int32.ofInt 0)) (fS_fitsLetters_30 N (fS_fitsLetters_2 N n ) l0 l1 l2 h9) (some ((Int32.ofInt 0), h9))) none))
theorem sfS_fitsLetters_2 {xs : List Int32} (N : Nat)   : ∀ (n : Nat) (l0 : Nat) (l1 : Int32) (l2 : Int32) (h : zH) (r : Int32 × zH), fS_fitsLetters_2 N n  l0 l1 l2 h = some r → zt xs (3) 33 2 [(0, .ref l0), (1, .int l1), (2, .int l2)] [] h 0 0 (zQ cI r) := by
  have hy := mfS_fitsLetters
  intro n
  induction n with
  | zero =>
    intro l0 l1 l2 h r e
    rw [fS_fitsLetters_2] at e
    cases e
  | succ n ih =>
    intro l0 l1 l2 h r e
    rw [fS_fitsLetters_2] at e
    exact zl hy 2 (pc2 := 4) (lv2 := [(0, .ref l0), (1, .int l1), (2, .int l2)]) (st2 := [.ref l0, .int l2]) rfl <| zx_gI hy rfl e fun x1 _ e => zx_c hy rfl e (fun _ e => zl hy 1 (pc2 := 37) (lv2 := [(0, .ref l0), (1, .int l1), (2, .int l2)]) (st2 := [.ref l0]) rfl <| zx_gR hy rfl e fun x2 _ e => zl hy 1 (pc2 := 41) (lv2 := [(0, .ref l0), (1, .int l1), (2, .int l2)]) (st2 := [.int l1, .ref x2]) rfl <| zx_call hy (as := [.ref x2, .int l1]) (rest := []) (ov := (fun v => some (.int v))) (fun _ => rfl) rfl rfl (Or.inl rfl) rfl rfl (Nat.le_of_ble_eq_true rfl) (Nat.le_of_ble_eq_true rfl) (fun _ e _ => z_rcvT (rfW_fitsLetters N x2 l1 h _ e)) (fun _ e => zt_deep (Nat.le_of_ble_eq_true rfl) (sfW_fitsLetters N x2 l1 h _ e)) e fun x3 h4 _ e => zx_retB hy rfl rfl e) (fun _ e => zl hy 2 (pc2 := 12) (lv2 := [(0, .ref l0), (1, .int l1), (2, .int l2)]) (st2 := [.int l2, .ref l0]) rfl <| zx_call hy (as := [.ref l0, .int l2]) (rest := []) (ov := (fun v => some (va_rf v))) (fun _ => rfl) rfl rfl (Or.inl rfl) rfl rfl (Nat.le_of_ble_eq_true rfl) (Nat.le_of_ble_eq_true rfl) (fun _ e _ => z_rcvT (rfS_keptAt N l0 l2 h _ e)) (fun _ e => zt_deep (Nat.le_of_ble_eq_true rfl) (sfS_keptAt N l0 l2 h _ e)) e fun x5 h6 _ e => (match x5, e with | none, e => zl hy 2 (pc2 := 17) (lv2 := [(3, .null), (0, .ref l0), (1, .int l1), (2, .int l2)]) (st2 := [.null]) rfl <| zx_nullN hy rfl <| zt_sub (z_fc rfl (z_fc rfl (z_fc rfl (z_fn)))) <| sfS_fitsLetters_30 N (fS_fitsLetters_2 N n ) ih l0 l1 l2 h6 _ e | some x7, e => zl hy 2 (pc2 := 17) (lv2 := [(3, .ref x7), (0, .ref l0), (1, .int l1), (2, .int l2)]) (st2 := [.ref x7]) rfl <| zx_nullR hy rfl e fun e => zl hy 2 (pc2 := 22) (lv2 := [(3, .ref x7), (0, .ref l0), (1, .int l1), (2, .int l2)]) (st2 := [.int l1, .ref x7]) rfl <| zx_call hy (as := [.ref x7, .int l1]) (rest := []) (ov := (fun v => some (.int v))) (fun _ => rfl) rfl rfl (Or.inl rfl) rfl rfl (Nat.le_of_ble_eq_true rfl) (Nat.le_of_ble_eq_true rfl) (fun _ e _ => z_rcvT (rfW_fitsLetters N x7 l1 h6 _ e)) (fun _ e => zt_deep (Nat.le_of_ble_eq_true rfl) (sfW_fitsLetters N x7 l1 h6 _ e)) e fun x8 h9 _ e => zx_c0 hy rfl e (fun _ e => zt_sub (z_fc rfl (z_fc rfl (z_fc rfl (z_fn)))) <| sfS_fitsLetters_30 N (fS_fitsLetters_2 N n ) ih l0 l1 l2 h9 _ e) (fun _ e => zl hy 1 (pc2 := 29) (lv2 := [(3, .ref x7), (0, .ref l0), (1, .int l1), (2, .int l2)]) (st2 := [.int (Int32.ofInt 0)]) rfl <| zx_ret hy (v := .int (Int32.ofInt 0)) rfl rfl (by decide) rfl e)))
def fS_fitsLetters (N : Nat) (l0 : Nat) (l1 : Int32) (h : zH) : Option (Int32 × zH) := cond (fT h l0 3) (fS_fitsLetters_2 N N  l0 l1 (Int32.ofInt 0) h) none
theorem sfS_fitsLetters {xs : List Int32} (N : Nat) (l0 : Nat) (l1 : Int32) (h : zH) (r : Int32 × zH) (e : fS_fitsLetters N l0 l1 h = some r) : zt xs (3) 33 0 [(0, .ref l0), (1, .int l1)] [] h 0 0 (zQ cI r) := by
  have hy := mfS_fitsLetters
  unfold fS_fitsLetters at e
  replace e := (cond_some e).2
  exact zl hy 2 (pc2 := 2) (lv2 := [(2, .int (Int32.ofInt 0)), (0, .ref l0), (1, .int l1)]) (st2 := []) rfl <| zt_sub (z_fc rfl (z_fc rfl (z_fc rfl (z_fn)))) <| sfS_fitsLetters_2 N   N l0 l1 (Int32.ofInt 0) h _ e
theorem rfS_fitsLetters (N : Nat) (l0 : Nat) (l1 : Int32) (h : zH) (r : Int32 × zH) (e : fS_fitsLetters N l0 l1 h = some r) : fT h l0 3 = true := by
  unfold fS_fitsLetters at e
  exact (cond_some e).1
/-- LyndonBench$Word.addFourBytes(I)V -/
theorem mfW_addFourBytes : z_me 47 zc_47 3 [] none := ⟨z_me0 rfl, rfl, rfl, rfl⟩
def fW_addFourBytes_3 (N : Nat) : Nat → Nat → Int32 → Int32 → zH → Option (Unit × zH)
  | 0, _, _, _, _ => none
  | n + 1, l0, l1, l2, h => cond (z_cmp .lt l2 (Int32.ofInt 0)) (some ((), h)) (b2 (fW_add N l0 (l1 >>> (l2 &&& 31)) h) fun _ h2 => fW_addFourBytes_3 N n  l0 l1 (l2 + Int32.ofInt (-8)) h2)
theorem sfW_addFourBytes_3 {xs : List Int32} (N : Nat)   : ∀ (n : Nat) (l0 : Nat) (l1 : Int32) (l2 : Int32) (h : zH) (r : Unit × zH), fW_addFourBytes_3 N n  l0 l1 l2 h = some r → zt xs (2) 47 3 [(0, .ref l0), (1, .int l1), (2, .int l2)] [] h 0 0 (zQ cV r) := by
  have hy := mfW_addFourBytes
  intro n
  induction n with
  | zero =>
    intro l0 l1 l2 h r e
    rw [fW_addFourBytes_3] at e
    cases e
  | succ n ih =>
    intro l0 l1 l2 h r e
    rw [fW_addFourBytes_3] at e
    exact zl hy 1 (pc2 := 4) (lv2 := [(0, .ref l0), (1, .int l1), (2, .int l2)]) (st2 := [.int l2]) rfl <| zx_c0 hy rfl e (fun _ e => zx_retV hy rfl rfl e) (fun _ e => zl hy 4 (pc2 := 11) (lv2 := [(0, .ref l0), (1, .int l1), (2, .int l2)]) (st2 := [.int (l1 >>> (l2 &&& 31)), .ref l0]) rfl <| zx_call hy (as := [.ref l0, .int (l1 >>> (l2 &&& 31))]) (rest := []) (ov := (fun _ => none)) (fun _ => rfl) rfl rfl (Or.inl rfl) rfl rfl (Nat.le_of_ble_eq_true rfl) (Nat.le_of_ble_eq_true rfl) (fun _ e _ => z_rcvT (rfW_add N l0 (l1 >>> (l2 &&& 31)) h _ e)) (fun _ e => zt_deep (Nat.le_of_ble_eq_true rfl) (sfW_add N l0 (l1 >>> (l2 &&& 31)) h _ e)) e fun _ h2 _ e => zl hy 2 (pc2 := 3) (lv2 := [(2, .int (l2 + Int32.ofInt (-8))), (0, .ref l0), (1, .int l1)]) (st2 := []) rfl <| zt_sub (z_fc rfl (z_fc rfl (z_fc rfl (z_fn)))) <| ih l0 l1 (l2 + Int32.ofInt (-8)) h2 _ e)
def fW_addFourBytes (N : Nat) (l0 : Nat) (l1 : Int32) (h : zH) : Option (Unit × zH) := cond (fT h l0 4) (fW_addFourBytes_3 N N  l0 l1 (Int32.ofInt 24) h) none
theorem sfW_addFourBytes {xs : List Int32} (N : Nat) (l0 : Nat) (l1 : Int32) (h : zH) (r : Unit × zH) (e : fW_addFourBytes N l0 l1 h = some r) : zt xs (2) 47 0 [(0, .ref l0), (1, .int l1)] [] h 0 0 (zQ cV r) := by
  have hy := mfW_addFourBytes
  unfold fW_addFourBytes at e
  replace e := (cond_some e).2
  exact zx_bip hy (c := 24) rfl (by decide) <| zl hy 1 (pc2 := 3) (lv2 := [(2, .int (Int32.ofInt 24)), (0, .ref l0), (1, .int l1)]) (st2 := []) rfl <| zt_sub (z_fc rfl (z_fc rfl (z_fc rfl (z_fn)))) <| sfW_addFourBytes_3 N   N l0 l1 (Int32.ofInt 24) h _ e
theorem rfW_addFourBytes (N : Nat) (l0 : Nat) (l1 : Int32) (h : zH) (r : Unit × zH) (e : fW_addFourBytes N l0 l1 h = some r) : fT h l0 4 = true := by
  unfold fW_addFourBytes at e
  exact (cond_some e).1
/-- LyndonBench$Word.addString(Ljava/lang/String;)V -/
theorem mfW_addString : z_me 48 zc_48 3 [] none := ⟨z_me0 rfl, rfl, rfl, rfl⟩
def fW_addString_2 (N : Nat) : Nat → Nat → Nat → Int32 → zH → Option (Unit × zH)
  | 0, _, _, _, _ => none
  | n + 1, l0, l1, l2, h => b2 (fJ_length N l1 h) fun x1 h2 => cond (z_cmp .ge l2 x1) (some ((), h2)) (b2 (fJ_charAt N l1 l2 h2) fun x3 h4 => b2 (fW_add N l0 x3 h4) fun _ h6 => fW_addString_2 N n  l0 l1 (l2 + Int32.ofInt 1) h6)
theorem sfW_addString_2 {xs : List Int32} (N : Nat)   : ∀ (n : Nat) (l0 : Nat) (l1 : Nat) (l2 : Int32) (h : zH) (r : Unit × zH), fW_addString_2 N n  l0 l1 l2 h = some r → zt xs (5) 48 2 [(0, .ref l0), (1, .ref l1), (2, .int l2)] [] h 0 0 (zQ cV r) := by
  have hy := mfW_addString
  intro n
  induction n with
  | zero =>
    intro l0 l1 l2 h r e
    rw [fW_addString_2] at e
    cases e
  | succ n ih =>
    intro l0 l1 l2 h r e
    rw [fW_addString_2] at e
    exact zl hy 2 (pc2 := 4) (lv2 := [(0, .ref l0), (1, .ref l1), (2, .int l2)]) (st2 := [.ref l1, .int l2]) rfl <| zx_call hy (as := [.ref l1]) (rest := [.int l2]) (ov := (fun v => some (.int v))) (fun _ => rfl) rfl rfl (Or.inl rfl) rfl rfl (Nat.le_of_ble_eq_true rfl) (Nat.le_of_ble_eq_true rfl) (fun _ e _ => z_rcvT (rfJ_length N l1 h _ e)) (fun _ e => zt_deep (Nat.le_of_ble_eq_true rfl) (sfJ_length N l1 h _ e)) e fun x1 h2 _ e => zx_c hy rfl e (fun _ e => zx_retV hy rfl rfl e) (fun _ e => zl hy 3 (pc2 := 13) (lv2 := [(0, .ref l0), (1, .ref l1), (2, .int l2)]) (st2 := [.int l2, .ref l1, .ref l0]) rfl <| zx_call hy (as := [.ref l1, .int l2]) (rest := [.ref l0]) (ov := (fun v => some (.int v))) (fun _ => rfl) rfl rfl (Or.inl rfl) rfl rfl (Nat.le_of_ble_eq_true rfl) (Nat.le_of_ble_eq_true rfl) (fun _ e _ => z_rcvT (rfJ_charAt N l1 l2 h2 _ e)) (fun _ e => zt_deep (Nat.le_of_ble_eq_true rfl) (sfJ_charAt N l1 l2 h2 _ e)) e fun x3 h4 _ e => zx_call hy (as := [.ref l0, .int x3]) (rest := []) (ov := (fun _ => none)) (fun _ => rfl) rfl rfl (Or.inl rfl) rfl rfl (Nat.le_of_ble_eq_true rfl) (Nat.le_of_ble_eq_true rfl) (fun _ e _ => z_rcvT (rfW_add N l0 x3 h4 _ e)) (fun _ e => zt_deep (Nat.le_of_ble_eq_true rfl) (sfW_add N l0 x3 h4 _ e)) e fun _ h6 _ e => zl hy 2 (pc2 := 2) (lv2 := [(2, .int (l2 + Int32.ofInt 1)), (0, .ref l0), (1, .ref l1)]) (st2 := []) rfl <| zt_sub (z_fc rfl (z_fc rfl (z_fc rfl (z_fn)))) <| ih l0 l1 (l2 + Int32.ofInt 1) h6 _ e)
def fW_addString (N : Nat) (l0 : Nat) (l1 : Nat) (h : zH) : Option (Unit × zH) := cond (fT h l0 4) (fW_addString_2 N N  l0 l1 (Int32.ofInt 0) h) none
theorem sfW_addString {xs : List Int32} (N : Nat) (l0 : Nat) (l1 : Nat) (h : zH) (r : Unit × zH) (e : fW_addString N l0 l1 h = some r) : zt xs (5) 48 0 [(0, .ref l0), (1, .ref l1)] [] h 0 0 (zQ cV r) := by
  have hy := mfW_addString
  unfold fW_addString at e
  replace e := (cond_some e).2
  exact zl hy 2 (pc2 := 2) (lv2 := [(2, .int (Int32.ofInt 0)), (0, .ref l0), (1, .ref l1)]) (st2 := []) rfl <| zt_sub (z_fc rfl (z_fc rfl (z_fc rfl (z_fn)))) <| sfW_addString_2 N   N l0 l1 (Int32.ofInt 0) h _ e
theorem rfW_addString (N : Nat) (l0 : Nat) (l1 : Nat) (h : zH) (r : Unit × zH) (e : fW_addString N l0 l1 h = some r) : fT h l0 4 = true := by
  unfold fW_addString at e
  exact (cond_some e).1
/-- LyndonBench$Word.addNumber(I)V -/
theorem mfW_addNumber : z_me 50 zc_50 2 [] none := ⟨z_me0 rfl, rfl, rfl, rfl⟩
def fW_addNumber_40 (N : Nat)  (l0 : Nat) (l1 : Int32) (h : zH) : Option (Unit × zH) := (if (Int32.ofInt 10) = Int32.ofInt 0 then none else b2 (fW_add N l0 ((Int32.ofInt 48) + (l1 - l1 / (Int32.ofInt 10) * (Int32.ofInt 10))) h) fun _ h3 => some ((), h3))
theorem sfW_addNumber_40 {xs : List Int32} (N : Nat)   (l0 : Nat) (l1 : Int32) (h : zH) (r : Unit × zH) (e : fW_addNumber_40 N  l0 l1 h = some r) : zt xs (2) 50 40 [(0, .ref l0), (1, .int l1)] [] h 0 0 (zQ cV r) := by
  have hy := mfW_addNumber
  unfold fW_addNumber_40 at e
  exact zl hy 1 (pc2 := 41) (lv2 := [(0, .ref l0), (1, .int l1)]) (st2 := [.ref l0]) rfl <| zx_bip hy (c := 48) rfl (by decide) <| zl hy 1 (pc2 := 44) (lv2 := [(0, .ref l0), (1, .int l1)]) (st2 := [.int l1, .int (Int32.ofInt 48), .ref l0]) rfl <| zx_bip hy (c := 10) rfl (by decide) <| zx_rem hy (G := fun _ => b2 (fW_add N l0 ((Int32.ofInt 48) + (l1 - l1 / (Int32.ofInt 10) * (Int32.ofInt 10))) h) fun _ h3 => some ((), h3)) rfl e fun _ e => zl hy 1 (pc2 := 48) (lv2 := [(0, .ref l0), (1, .int l1)]) (st2 := [.int ((Int32.ofInt 48) + (l1 - l1 / (Int32.ofInt 10) * (Int32.ofInt 10))), .ref l0]) rfl <| zx_call hy (as := [.ref l0, .int ((Int32.ofInt 48) + (l1 - l1 / (Int32.ofInt 10) * (Int32.ofInt 10)))]) (rest := []) (ov := (fun _ => none)) (fun _ => rfl) rfl rfl (Or.inl rfl) rfl rfl (Nat.le_of_ble_eq_true rfl) (Nat.le_of_ble_eq_true rfl) (fun _ e _ => z_rcvT (rfW_add N l0 ((Int32.ofInt 48) + (l1 - l1 / (Int32.ofInt 10) * (Int32.ofInt 10))) h _ e)) (fun _ e => zt_deep (Nat.le_of_ble_eq_true rfl) (sfW_add N l0 ((Int32.ofInt 48) + (l1 - l1 / (Int32.ofInt 10) * (Int32.ofInt 10))) h _ e)) e fun _ h3 _ e => zx_retV hy rfl rfl e
def fW_addNumber_20 (N : Nat)  (l0 : Nat) (l1 : Int32) (h : zH) : Option (Unit × zH) := cond (z_cmp .lt l1 (Int32.ofInt 10)) (fW_addNumber_40 N  l0 l1 h) ((if (Int32.ofInt 10) = Int32.ofInt 0 then none else (if (Int32.ofInt 10) = Int32.ofInt 0 then none else b2 (fW_add N l0 ((Int32.ofInt 48) + ((l1 / (Int32.ofInt 10)) - (l1 / (Int32.ofInt 10)) / (Int32.ofInt 10) * (Int32.ofInt 10))) h) fun _ h4 => fW_addNumber_40 N  l0 l1 h4)))
theorem sfW_addNumber_20 {xs : List Int32} (N : Nat)   (l0 : Nat) (l1 : Int32) (h : zH) (r : Unit × zH) (e : fW_addNumber_20 N  l0 l1 h = some r) : zt xs (2) 50 20 [(0, .ref l0), (1, .int l1)] [] h 0 0 (zQ cV r) := by
  have hy := mfW_addNumber
  unfold fW_addNumber_20 at e
  exact zl hy 1 (pc2 := 21) (lv2 := [(0, .ref l0), (1, .int l1)]) (st2 := [.int l1]) rfl <| zx_bip hy (c := 10) rfl (by decide) <| zx_c hy rfl e (fun _ e => zt_sub (z_fc rfl (z_fc rfl (z_fn))) <| sfW_addNumber_40 N   l0 l1 h _ e) (fun _ e => zl hy 1 (pc2 := 27) (lv2 := [(0, .ref l0), (1, .int l1)]) (st2 := [.ref l0]) rfl <| zx_bip hy (c := 48) rfl (by decide) <| zl hy 1 (pc2 := 30) (lv2 := [(0, .ref l0), (1, .int l1)]) (st2 := [.int l1, .int (Int32.ofInt 48), .ref l0]) rfl <| zx_bip hy (c := 10) rfl (by decide) <| zx_div hy (G := fun _ => (if (Int32.ofInt 10) = Int32.ofInt 0 then none else b2 (fW_add N l0 ((Int32.ofInt 48) + ((l1 / (Int32.ofInt 10)) - (l1 / (Int32.ofInt 10)) / (Int32.ofInt 10) * (Int32.ofInt 10))) h) fun _ h4 => fW_addNumber_40 N  l0 l1 h4)) rfl e fun _ e => zx_bip hy (c := 10) rfl (by decide) <| zx_rem hy (G := fun _ => b2 (fW_add N l0 ((Int32.ofInt 48) + ((l1 / (Int32.ofInt 10)) - (l1 / (Int32.ofInt 10)) / (Int32.ofInt 10) * (Int32.ofInt 10))) h) fun _ h4 => fW_addNumber_40 N  l0 l1 h4) rfl e fun _ e => zl hy 1 (pc2 := 37) (lv2 := [(0, .ref l0), (1, .int l1)]) (st2 := [.int ((Int32.ofInt 48) + ((l1 / (Int32.ofInt 10)) - (l1 / (Int32.ofInt 10)) / (Int32.ofInt 10) * (Int32.ofInt 10))), .ref l0]) rfl <| zx_call hy (as := [.ref l0, .int ((Int32.ofInt 48) + ((l1 / (Int32.ofInt 10)) - (l1 / (Int32.ofInt 10)) / (Int32.ofInt 10) * (Int32.ofInt 10)))]) (rest := []) (ov := (fun _ => none)) (fun _ => rfl) rfl rfl (Or.inl rfl) rfl rfl (Nat.le_of_ble_eq_true rfl) (Nat.le_of_ble_eq_true rfl) (fun _ e _ => z_rcvT (rfW_add N l0 ((Int32.ofInt 48) + ((l1 / (Int32.ofInt 10)) - (l1 / (Int32.ofInt 10)) / (Int32.ofInt 10) * (Int32.ofInt 10))) h _ e)) (fun _ e => zt_deep (Nat.le_of_ble_eq_true rfl) (sfW_add N l0 ((Int32.ofInt 48) + ((l1 / (Int32.ofInt 10)) - (l1 / (Int32.ofInt 10)) / (Int32.ofInt 10) * (Int32.ofInt 10))) h _ e)) e fun _ h4 _ e => zt_sub (z_fc rfl (z_fc rfl (z_fn))) <| sfW_addNumber_40 N   l0 l1 h4 _ e)
def fW_addNumber (N : Nat) (l0 : Nat) (l1 : Int32) (h : zH) : Option (Unit × zH) := cond (fT h l0 4) (cond (z_cmp .lt l1 (Int32.ofInt 100)) (fW_addNumber_20 N  l0 l1 h) ((if (Int32.ofInt 100) = Int32.ofInt 0 then none else (if (Int32.ofInt 10) = Int32.ofInt 0 then none else b2 (fW_add N l0 ((Int32.ofInt 48) + ((l1 / (Int32.ofInt 100)) - (l1 / (Int32.ofInt 100)) / (Int32.ofInt 10) * (Int32.ofInt 10))) h) fun _ h4 => fW_addNumber_20 N  l0 l1 h4)))) none
theorem sfW_addNumber {xs : List Int32} (N : Nat) (l0 : Nat) (l1 : Int32) (h : zH) (r : Unit × zH) (e : fW_addNumber N l0 l1 h = some r) : zt xs (2) 50 0 [(0, .ref l0), (1, .int l1)] [] h 0 0 (zQ cV r) := by
  have hy := mfW_addNumber
  unfold fW_addNumber at e
  replace e := (cond_some e).2
  exact zl hy 1 (pc2 := 1) (lv2 := [(0, .ref l0), (1, .int l1)]) (st2 := [.int l1]) rfl <| zx_bip hy (c := 100) rfl (by decide) <| zx_c hy rfl e (fun _ e => zt_sub (z_fc rfl (z_fc rfl (z_fn))) <| sfW_addNumber_20 N   l0 l1 h _ e) (fun _ e => zl hy 1 (pc2 := 7) (lv2 := [(0, .ref l0), (1, .int l1)]) (st2 := [.ref l0]) rfl <| zx_bip hy (c := 48) rfl (by decide) <| zl hy 1 (pc2 := 10) (lv2 := [(0, .ref l0), (1, .int l1)]) (st2 := [.int l1, .int (Int32.ofInt 48), .ref l0]) rfl <| zx_bip hy (c := 100) rfl (by decide) <| zx_div hy (G := fun _ => (if (Int32.ofInt 10) = Int32.ofInt 0 then none else b2 (fW_add N l0 ((Int32.ofInt 48) + ((l1 / (Int32.ofInt 100)) - (l1 / (Int32.ofInt 100)) / (Int32.ofInt 10) * (Int32.ofInt 10))) h) fun _ h4 => fW_addNumber_20 N  l0 l1 h4)) rfl e fun _ e => zx_bip hy (c := 10) rfl (by decide) <| zx_rem hy (G := fun _ => b2 (fW_add N l0 ((Int32.ofInt 48) + ((l1 / (Int32.ofInt 100)) - (l1 / (Int32.ofInt 100)) / (Int32.ofInt 10) * (Int32.ofInt 10))) h) fun _ h4 => fW_addNumber_20 N  l0 l1 h4) rfl e fun _ e => zl hy 1 (pc2 := 17) (lv2 := [(0, .ref l0), (1, .int l1)]) (st2 := [.int ((Int32.ofInt 48) + ((l1 / (Int32.ofInt 100)) - (l1 / (Int32.ofInt 100)) / (Int32.ofInt 10) * (Int32.ofInt 10))), .ref l0]) rfl <| zx_call hy (as := [.ref l0, .int ((Int32.ofInt 48) + ((l1 / (Int32.ofInt 100)) - (l1 / (Int32.ofInt 100)) / (Int32.ofInt 10) * (Int32.ofInt 10)))]) (rest := []) (ov := (fun _ => none)) (fun _ => rfl) rfl rfl (Or.inl rfl) rfl rfl (Nat.le_of_ble_eq_true rfl) (Nat.le_of_ble_eq_true rfl) (fun _ e _ => z_rcvT (rfW_add N l0 ((Int32.ofInt 48) + ((l1 / (Int32.ofInt 100)) - (l1 / (Int32.ofInt 100)) / (Int32.ofInt 10) * (Int32.ofInt 10))) h _ e)) (fun _ e => zt_deep (Nat.le_of_ble_eq_true rfl) (sfW_add N l0 ((Int32.ofInt 48) + ((l1 / (Int32.ofInt 100)) - (l1 / (Int32.ofInt 100)) / (Int32.ofInt 10) * (Int32.ofInt 10))) h _ e)) e fun _ h4 _ e => zt_sub (z_fc rfl (z_fc rfl (z_fn))) <| sfW_addNumber_20 N   l0 l1 h4 _ e)
theorem rfW_addNumber (N : Nat) (l0 : Nat) (l1 : Int32) (h : zH) (r : Unit × zH) (e : fW_addNumber N l0 l1 h = some r) : fT h l0 4 = true := by
  unfold fW_addNumber at e
  exact (cond_some e).1
/-- LyndonBench$Word.countFactors()I -/
theorem mfW_countFactors : z_me 61 zc_61 6 [] (some .int) := ⟨z_me0 rfl, rfl, rfl, rfl⟩
def fW_countFactors_48 (N : Nat)  (l1 : Int32) (h : zH) : Option (Int32 × zH) := some (l1, h)
theorem sfW_countFactors_48 {xs : List Int32} (N : Nat)   (l1 : Int32) (h : zH) (r : Int32 × zH) (e : fW_countFactors_48 N  l1 h = some r) : zt xs (4) 61 48 [(1, .int l1)] [] h 0 0 (zQ cI r) := by
  have hy := mfW_countFactors
  unfold fW_countFactors_48 at e
  exact zl hy 1 (pc2 := 49) (lv2 := [(1, .int l1)]) (st2 := [.int l1]) rfl <| zx_ret hy rfl rfl rfl rfl e
def fW_countFactors_9 (N : Nat) : Nat → Nat → Int32 → Int32 → Int32 → Int32 → zH → Option (Int32 × zH)
  | 0, _, _, _, _, _, _ => none
  | n + 1, l0, l1, l2, l3, l4, h => b1 (fI h l0 4 1) fun x1 => cond (z_cmp .ge l4 x1) (fW_countFactors_48 N  l1 h) (b1 (fI h l0 4 1) fun x2 => cond (z_cmp .ge l3 x2) (fW_countFactors_48 N  l1 h) (b2 (fW_factorEnd N l0 l2 l3 h) fun x3 h4 => fW_countFactors_9 N n  l0 (l1 + Int32.ofInt 1) l3 x3 (l4 + Int32.ofInt 1) h4))
theorem sfW_countFactors_9 {xs : List Int32} (N : Nat)   : ∀ (n : Nat) (l0 : Nat) (l1 : Int32) (l2 : Int32) (l3 : Int32) (l4 : Int32) (h : zH) (r : Int32 × zH), fW_countFactors_9 N n  l0 l1 l2 l3 l4 h = some r → zt xs (4) 61 9 [(0, .ref l0), (1, .int l1), (2, .int l2), (3, .int l3), (4, .int l4)] [] h 0 0 (zQ cI r) := by
  have hy := mfW_countFactors
  intro n
  induction n with
  | zero =>
    intro l0 l1 l2 l3 l4 h r e
    rw [fW_countFactors_9] at e
    cases e
  | succ n ih =>
    intro l0 l1 l2 l3 l4 h r e
    rw [fW_countFactors_9] at e
    exact zl hy 2 (pc2 := 12) (lv2 := [(0, .ref l0), (1, .int l1), (2, .int l2), (3, .int l3), (4, .int l4)]) (st2 := [.ref l0, .int l4]) rfl <| zx_gI hy rfl e fun x1 _ e => zx_c hy rfl e (fun _ e => zt_sub (z_fc rfl (z_fn)) <| sfW_countFactors_48 N   l1 h _ e) (fun _ e => zl hy 2 (pc2 := 20) (lv2 := [(0, .ref l0), (1, .int l1), (2, .int l2), (3, .int l3), (4, .int l4)]) (st2 := [.ref l0, .int l3]) rfl <| zx_gI hy rfl e fun x2 _ e => zx_c hy rfl e (fun _ e => zt_sub (z_fc rfl (z_fn)) <| sfW_countFactors_48 N   l1 h _ e) (fun _ e => zl hy 3 (pc2 := 29) (lv2 := [(0, .ref l0), (1, .int l1), (2, .int l2), (3, .int l3), (4, .int l4)]) (st2 := [.int l3, .int l2, .ref l0]) rfl <| zx_call hy (as := [.ref l0, .int l2, .int l3]) (rest := []) (ov := (fun v => some (.int v))) (fun _ => rfl) rfl rfl (Or.inl rfl) rfl rfl (Nat.le_of_ble_eq_true rfl) (Nat.le_of_ble_eq_true rfl) (fun _ e _ => z_rcvT (rfW_factorEnd N l0 l2 l3 h _ e)) (fun _ e => zt_deep (Nat.le_of_ble_eq_true rfl) (sfW_factorEnd N l0 l2 l3 h _ e)) e fun x3 h4 _ e => zl hy 8 (pc2 := 9) (lv2 := [(4, .int (l4 + Int32.ofInt 1)), (3, .int x3), (2, .int l3), (1, .int (l1 + Int32.ofInt 1)), (5, .int x3), (0, .ref l0)]) (st2 := []) rfl <| zt_sub (z_fc rfl (z_fc rfl (z_fc rfl (z_fc rfl (z_fc rfl (z_fn)))))) <| ih l0 (l1 + Int32.ofInt 1) l3 x3 (l4 + Int32.ofInt 1) h4 _ e))
def fW_countFactors (N : Nat) (l0 : Nat) (h : zH) : Option (Int32 × zH) := cond (fT h l0 4) (fW_countFactors_9 N N  l0 (Int32.ofInt 0) (Int32.ofInt 0) (Int32.ofInt 0) (Int32.ofInt 0) h) none
theorem sfW_countFactors {xs : List Int32} (N : Nat) (l0 : Nat) (h : zH) (r : Int32 × zH) (e : fW_countFactors N l0 h = some r) : zt xs (4) 61 0 [(0, .ref l0)] [] h 0 0 (zQ cI r) := by
  have hy := mfW_countFactors
  unfold fW_countFactors at e
  replace e := (cond_some e).2
  exact zl hy 8 (pc2 := 9) (lv2 := [(4, .int (Int32.ofInt 0)), (3, .int (Int32.ofInt 0)), (2, .int (Int32.ofInt 0)), (1, .int (Int32.ofInt 0)), (0, .ref l0)]) (st2 := []) rfl <| zt_sub (z_fc rfl (z_fc rfl (z_fc rfl (z_fc rfl (z_fc rfl (z_fn)))))) <| sfW_countFactors_9 N   N l0 (Int32.ofInt 0) (Int32.ofInt 0) (Int32.ofInt 0) (Int32.ofInt 0) h _ e
theorem rfW_countFactors (N : Nat) (l0 : Nat) (h : zH) (r : Int32 × zH) (e : fW_countFactors N l0 h = some r) : fT h l0 4 = true := by
  unfold fW_countFactors at e
  exact (cond_some e).1
/-- LyndonBench$Word.factorWith(I)I -/
theorem mfW_factorWith : z_me 64 zc_64 7 [] (some .int) := ⟨z_me0 rfl, rfl, rfl, rfl⟩
def fW_factorWith_12 (N : Nat)   (h : zH) : Option (Int32 × zH) := some ((Int32.ofInt (-1)), h)
theorem sfW_factorWith_12 {xs : List Int32} (N : Nat)    (h : zH) (r : Int32 × zH) (e : fW_factorWith_12 N   h = some r) : zt xs (4) 64 12 [] [] h 0 0 (zQ cI r) := by
  have hy := mfW_factorWith
  unfold fW_factorWith_12 at e
  exact zl hy 1 (pc2 := 13) (lv2 := []) (st2 := [.int (Int32.ofInt (-1))]) rfl <| zx_ret hy rfl rfl rfl rfl e
def fW_factorWith_64 (N : Nat)  (l2 : Int32) (h : zH) : Option (Int32 × zH) := some (l2, h)
theorem sfW_factorWith_64 {xs : List Int32} (N : Nat)   (l2 : Int32) (h : zH) (r : Int32 × zH) (e : fW_factorWith_64 N  l2 h = some r) : zt xs (4) 64 64 [(2, .int l2)] [] h 0 0 (zQ cI r) := by
  have hy := mfW_factorWith
  unfold fW_factorWith_64 at e
  exact zl hy 1 (pc2 := 65) (lv2 := [(2, .int l2)]) (st2 := [.int l2]) rfl <| zx_ret hy rfl rfl rfl rfl e
def fW_factorWith_24 (N : Nat) : Nat → Nat → Int32 → Int32 → Int32 → Int32 → Int32 → zH → Option (Int32 × zH)
  | 0, _, _, _, _, _, _, _ => none
  | n + 1, l0, l1, l2, l3, l4, l5, h => b1 (fI h l0 4 1) fun x2 => cond (z_cmp .ge l5 x2) (fW_factorWith_64 N  l2 h) (cond (z_cmp .gt l4 l1) (fW_factorWith_64 N  l2 h) (b2 (fW_factorEnd N l0 l3 l4 h) fun x3 h4 => fW_factorWith_24 N n  l0 l1 l5 l4 x3 (l5 + Int32.ofInt 1) h4))
theorem sfW_factorWith_24 {xs : List Int32} (N : Nat)   : ∀ (n : Nat) (l0 : Nat) (l1 : Int32) (l2 : Int32) (l3 : Int32) (l4 : Int32) (l5 : Int32) (h : zH) (r : Int32 × zH), fW_factorWith_24 N n  l0 l1 l2 l3 l4 l5 h = some r → zt xs (4) 64 24 [(0, .ref l0), (1, .int l1), (2, .int l2), (3, .int l3), (4, .int l4), (5, .int l5)] [] h 0 0 (zQ cI r) := by
  have hy := mfW_factorWith
  intro n
  induction n with
  | zero =>
    intro l0 l1 l2 l3 l4 l5 h r e
    rw [fW_factorWith_24] at e
    cases e
  | succ n ih =>
    intro l0 l1 l2 l3 l4 l5 h r e
    rw [fW_factorWith_24] at e
    exact zl hy 2 (pc2 := 27) (lv2 := [(0, .ref l0), (1, .int l1), (2, .int l2), (3, .int l3), (4, .int l4), (5, .int l5)]) (st2 := [.ref l0, .int l5]) rfl <| zx_gI hy rfl e fun x2 _ e => zx_c hy rfl e (fun _ e => zt_sub (z_fc rfl (z_fn)) <| sfW_factorWith_64 N   l2 h _ e) (fun _ e => zl hy 2 (pc2 := 36) (lv2 := [(0, .ref l0), (1, .int l1), (2, .int l2), (3, .int l3), (4, .int l4), (5, .int l5)]) (st2 := [.int l1, .int l4]) rfl <| zx_c hy rfl e (fun _ e => zt_sub (z_fc rfl (z_fn)) <| sfW_factorWith_64 N   l2 h _ e) (fun _ e => zl hy 3 (pc2 := 43) (lv2 := [(0, .ref l0), (1, .int l1), (2, .int l2), (3, .int l3), (4, .int l4), (5, .int l5)]) (st2 := [.int l4, .int l3, .ref l0]) rfl <| zx_call hy (as := [.ref l0, .int l3, .int l4]) (rest := []) (ov := (fun v => some (.int v))) (fun _ => rfl) rfl rfl (Or.inl rfl) rfl rfl (Nat.le_of_ble_eq_true rfl) (Nat.le_of_ble_eq_true rfl) (fun _ e _ => z_rcvT (rfW_factorEnd N l0 l3 l4 h _ e)) (fun _ e => zt_deep (Nat.le_of_ble_eq_true rfl) (sfW_factorEnd N l0 l3 l4 h _ e)) e fun x3 h4 _ e => zl hy 9 (pc2 := 24) (lv2 := [(5, .int (l5 + Int32.ofInt 1)), (4, .int x3), (3, .int l4), (2, .int l5), (6, .int x3), (0, .ref l0), (1, .int l1)]) (st2 := []) rfl <| zt_sub (z_fc rfl (z_fc rfl (z_fc rfl (z_fc rfl (z_fc rfl (z_fc rfl (z_fn))))))) <| ih l0 l1 l5 l4 x3 (l5 + Int32.ofInt 1) h4 _ e))
def fW_factorWith (N : Nat) (l0 : Nat) (l1 : Int32) (h : zH) : Option (Int32 × zH) := cond (fT h l0 4) (cond (z_cmp .lt l1 (Int32.ofInt 0)) (fW_factorWith_12 N   h) (b1 (fI h l0 4 1) fun x1 => cond (z_cmp .lt l1 x1) (fW_factorWith_24 N N  l0 l1 (Int32.ofInt (-1)) (Int32.ofInt 0) (Int32.ofInt 0) (Int32.ofInt 0) h) (fW_factorWith_12 N   h))) none
theorem sfW_factorWith {xs : List Int32} (N : Nat) (l0 : Nat) (l1 : Int32) (h : zH) (r : Int32 × zH) (e : fW_factorWith N l0 l1 h = some r) : zt xs (4) 64 0 [(0, .ref l0), (1, .int l1)] [] h 0 0 (zQ cI r) := by
  have hy := mfW_factorWith
  unfold fW_factorWith at e
  replace e := (cond_some e).2
  exact zl hy 1 (pc2 := 1) (lv2 := [(0, .ref l0), (1, .int l1)]) (st2 := [.int l1]) rfl <| zx_c0 hy rfl e (fun _ e => zt_sub (z_fn) <| sfW_factorWith_12 N    h _ e) (fun _ e => zl hy 2 (pc2 := 6) (lv2 := [(0, .ref l0), (1, .int l1)]) (st2 := [.ref l0, .int l1]) rfl <| zx_gI hy rfl e fun x1 _ e => zx_c hy rfl e (fun _ e => zl hy 8 (pc2 := 24) (lv2 := [(5, .int (Int32.ofInt 0)), (4, .int (Int32.ofInt 0)), (3, .int (Int32.ofInt 0)), (2, .int (Int32.ofInt (-1))), (0, .ref l0), (1, .int l1)]) (st2 := []) rfl <| zt_sub (z_fc rfl (z_fc rfl (z_fc rfl (z_fc rfl (z_fc rfl (z_fc rfl (z_fn))))))) <| sfW_factorWith_24 N   N l0 l1 (Int32.ofInt (-1)) (Int32.ofInt 0) (Int32.ofInt 0) (Int32.ofInt 0) h _ e) (fun _ e => zt_sub (z_fn) <| sfW_factorWith_12 N    h _ e))
theorem rfW_factorWith (N : Nat) (l0 : Nat) (l1 : Int32) (h : zH) (r : Int32 × zH) (e : fW_factorWith N l0 l1 h = some r) : fT h l0 4 = true := by
  unfold fW_factorWith at e
  exact (cond_some e).1
/-- LyndonBench$Word.firstLongestFactor()I -/
theorem mfW_firstLongestFactor : z_me 65 zc_65 7 [] (some .int) := ⟨z_me0 rfl, rfl, rfl, rfl⟩
def fW_firstLongestFactor_70 (N : Nat)  (l1 : Int32) (h : zH) : Option (Int32 × zH) := some (l1, h)
theorem sfW_firstLongestFactor_70 {xs : List Int32} (N : Nat)   (l1 : Int32) (h : zH) (r : Int32 × zH) (e : fW_firstLongestFactor_70 N  l1 h = some r) : zt xs (4) 65 70 [(1, .int l1)] [] h 0 0 (zQ cI r) := by
  have hy := mfW_firstLongestFactor
  unfold fW_firstLongestFactor_70 at e
  exact zl hy 1 (pc2 := 71) (lv2 := [(1, .int l1)]) (st2 := [.int l1]) rfl <| zx_ret hy rfl rfl rfl rfl e
def fW_firstLongestFactor_57 (N : Nat) (k12 : Nat → Int32 → Int32 → Int32 → Int32 → Int32 → zH → Option (Int32 × zH)) (l0 : Nat) (l1 : Int32) (l2 : Int32) (l4 : Int32) (l5 : Int32) (l6 : Int32) (h : zH) : Option (Int32 × zH) := k12 l0 l1 l2 l4 l6 (l5 + Int32.ofInt 1) h
theorem sfW_firstLongestFactor_57 {xs : List Int32} (N : Nat) (k12 : Nat → Int32 → Int32 → Int32 → Int32 → Int32 → zH → Option (Int32 × zH))  (hk12 : ∀ (l0 : Nat) (l1 : Int32) (l2 : Int32) (l3 : Int32) (l4 : Int32) (l5 : Int32) (h : zH) (r : Int32 × zH), k12 l0 l1 l2 l3 l4 l5 h = some r → zt xs (4) 65 12 [(0, .ref l0), (1, .int l1), (2, .int l2), (3, .int l3), (4, .int l4), (5, .int l5)] [] h 0 0 (zQ cI r)) (l0 : Nat) (l1 : Int32) (l2 : Int32) (l4 : Int32) (l5 : Int32) (l6 : Int32) (h : zH) (r : Int32 × zH) (e : fW_firstLongestFactor_57 N k12 l0 l1 l2 l4 l5 l6 h = some r) : zt xs (4) 65 57 [(0, .ref l0), (1, .int l1), (2, .int l2), (4, .int l4), (5, .int l5), (6, .int l6)] [] h 0 0 (zQ cI r) := by
  have hy := mfW_firstLongestFactor
  unfold fW_firstLongestFactor_57 at e
  exact zl hy 6 (pc2 := 12) (lv2 := [(5, .int (l5 + Int32.ofInt 1)), (4, .int l6), (3, .int l4), (0, .ref l0), (1, .int l1), (2, .int l2), (6, .int l6)]) (st2 := []) rfl <| zt_sub (z_fc rfl (z_fc rfl (z_fc rfl (z_fc rfl (z_fc rfl (z_fc rfl (z_fn))))))) <| hk12 l0 l1 l2 l4 l6 (l5 + Int32.ofInt 1) h _ e
def fW_firstLongestFactor_12 (N : Nat) : Nat → Nat → Int32 → Int32 → Int32 → Int32 → Int32 → zH → Option (Int32 × zH)
  | 0, _, _, _, _, _, _, _ => none
  | n + 1, l0, l1, l2, l3, l4, l5, h => b1 (fI h l0 4 1) fun x1 => cond (z_cmp .ge l5 x1) (fW_firstLongestFactor_70 N  l1 h) (b1 (fI h l0 4 1) fun x2 => cond (z_cmp .ge l4 x2) (fW_firstLongestFactor_70 N  l1 h) (b2 (fW_factorEnd N l0 l3 l4 h) fun x3 h4 => cond (z_cmp .le (x3 - l4) l2) (fW_firstLongestFactor_57 N (fW_firstLongestFactor_12 N n ) l0 l1 l2 l4 l5 x3 h4) (fW_firstLongestFactor_57 N (fW_firstLongestFactor_12 N n ) l0 l5 (x3 - l4) l4 l5 x3 h4)))
theorem sfW_firstLongestFactor_12 {xs : List Int32} (N : Nat)   : ∀ (n : Nat) (l0 : Nat) (l1 : Int32) (l2 : Int32) (l3 : Int32) (l4 : Int32) (l5 : Int32) (h : zH) (r : Int32 × zH), fW_firstLongestFactor_12 N n  l0 l1 l2 l3 l4 l5 h = some r → zt xs (4) 65 12 [(0, .ref l0), (1, .int l1), (2, .int l2), (3, .int l3), (4, .int l4), (5, .int l5)] [] h 0 0 (zQ cI r) := by
  have hy := mfW_firstLongestFactor
  intro n
  induction n with
  | zero =>
    intro l0 l1 l2 l3 l4 l5 h r e
    rw [fW_firstLongestFactor_12] at e
    cases e
  | succ n ih =>
    intro l0 l1 l2 l3 l4 l5 h r e
    rw [fW_firstLongestFactor_12] at e
    exact zl hy 2 (pc2 := 15) (lv2 := [(0, .ref l0), (1, .int l1), (2, .int l2), (3, .int l3), (4, .int l4), (5, .int l5)]) (st2 := [.ref l0, .int l5]) rfl <| zx_gI hy rfl e fun x1 _ e => zx_c hy rfl e (fun _ e => zt_sub (z_fc rfl (z_fn)) <| sfW_firstLongestFactor_70 N   l1 h _ e) (fun _ e => zl hy 2 (pc2 := 24) (lv2 := [(0, .ref l0), (1, .int l1), (2, .int l2), (3, .int l3), (4, .int l4), (5, .int l5)]) (st2 := [.ref l0, .int l4]) rfl <| zx_gI hy rfl e fun x2 _ e => zx_c hy rfl e (fun _ e => zt_sub (z_fc rfl (z_fn)) <| sfW_firstLongestFactor_70 N   l1 h _ e) (fun _ e => zl hy 3 (pc2 := 34) (lv2 := [(0, .ref l0), (1, .int l1), (2, .int l2), (3, .int l3), (4, .int l4), (5, .int l5)]) (st2 := [.int l4, .int l3, .ref l0]) rfl <| zx_call hy (as := [.ref l0, .int l3, .int l4]) (rest := []) (ov := (fun v => some (.int v))) (fun _ => rfl) rfl rfl (Or.inl rfl) rfl rfl (Nat.le_of_ble_eq_true rfl) (Nat.le_of_ble_eq_true rfl) (fun _ e _ => z_rcvT (rfW_factorEnd N l0 l3 l4 h _ e)) (fun _ e => zt_deep (Nat.le_of_ble_eq_true rfl) (sfW_factorEnd N l0 l3 l4 h _ e)) e fun x3 h4 _ e => zl hy 5 (pc2 := 45) (lv2 := [(6, .int x3), (0, .ref l0), (1, .int l1), (2, .int l2), (3, .int l3), (4, .int l4), (5, .int l5)]) (st2 := [.int l2, .int (x3 - l4)]) rfl <| zx_c hy rfl e (fun _ e => zt_sub (z_fc rfl (z_fc rfl (z_fc rfl (z_fc rfl (z_fc rfl (z_fc rfl (z_fn))))))) <| sfW_firstLongestFactor_57 N (fW_firstLongestFactor_12 N n ) ih l0 l1 l2 l4 l5 x3 h4 _ e) (fun _ e => zl hy 6 (pc2 := 57) (lv2 := [(1, .int l5), (2, .int (x3 - l4)), (6, .int x3), (0, .ref l0), (3, .int l3), (4, .int l4), (5, .int l5)]) (st2 := []) rfl <| zt_sub (z_fc rfl (z_fc rfl (z_fc rfl (z_fc rfl (z_fc rfl (z_fc rfl (z_fn))))))) <| sfW_firstLongestFactor_57 N (fW_firstLongestFactor_12 N n ) ih l0 l5 (x3 - l4) l4 l5 x3 h4 _ e)))
def fW_firstLongestFactor (N : Nat) (l0 : Nat) (h : zH) : Option (Int32 × zH) := cond (fT h l0 4) (fW_firstLongestFactor_12 N N  l0 (Int32.ofInt (-1)) (Int32.ofInt 0) (Int32.ofInt 0) (Int32.ofInt 0) (Int32.ofInt 0) h) none
theorem sfW_firstLongestFactor {xs : List Int32} (N : Nat) (l0 : Nat) (h : zH) (r : Int32 × zH) (e : fW_firstLongestFactor N l0 h = some r) : zt xs (4) 65 0 [(0, .ref l0)] [] h 0 0 (zQ cI r) := by
  have hy := mfW_firstLongestFactor
  unfold fW_firstLongestFactor at e
  replace e := (cond_some e).2
  exact zl hy 10 (pc2 := 12) (lv2 := [(5, .int (Int32.ofInt 0)), (4, .int (Int32.ofInt 0)), (3, .int (Int32.ofInt 0)), (2, .int (Int32.ofInt 0)), (1, .int (Int32.ofInt (-1))), (0, .ref l0)]) (st2 := []) rfl <| zt_sub (z_fc rfl (z_fc rfl (z_fc rfl (z_fc rfl (z_fc rfl (z_fc rfl (z_fn))))))) <| sfW_firstLongestFactor_12 N   N l0 (Int32.ofInt (-1)) (Int32.ofInt 0) (Int32.ofInt 0) (Int32.ofInt 0) (Int32.ofInt 0) h _ e
theorem rfW_firstLongestFactor (N : Nat) (l0 : Nat) (h : zH) (r : Int32 × zH) (e : fW_firstLongestFactor N l0 h = some r) : fT h l0 4 = true := by
  unfold fW_firstLongestFactor at e
  exact (cond_some e).1
/-- LyndonBench$Word.countFactorsLike(II)I -/
theorem mfW_countFactorsLike : z_me 66 zc_66 8 [] (some .int) := ⟨z_me0 rfl, rfl, rfl, rfl⟩
def fW_countFactorsLike_70 (N : Nat)  (l3 : Int32) (h : zH) : Option (Int32 × zH) := some (l3, h)
theorem sfW_countFactorsLike_70 {xs : List Int32} (N : Nat)   (l3 : Int32) (h : zH) (r : Int32 × zH) (e : fW_countFactorsLike_70 N  l3 h = some r) : zt xs (4) 66 70 [(3, .int l3)] [] h 0 0 (zQ cI r) := by
  have hy := mfW_countFactorsLike
  unfold fW_countFactorsLike_70 at e
  exact zl hy 1 (pc2 := 71) (lv2 := [(3, .int l3)]) (st2 := [.int l3]) rfl <| zx_ret hy rfl rfl rfl rfl e
def fW_countFactorsLike_56 (N : Nat) (k11 : Nat → Int32 → Int32 → Int32 → Int32 → Int32 → Int32 → zH → Option (Int32 × zH)) (l0 : Nat) (l1 : Int32) (l2 : Int32) (l3 : Int32) (l5 : Int32) (l6 : Int32) (l7 : Int32) (h : zH) : Option (Int32 × zH) := k11 l0 l1 l2 l3 l5 l7 (l6 + Int32.ofInt 1) h
theorem sfW_countFactorsLike_56 {xs : List Int32} (N : Nat) (k11 : Nat → Int32 → Int32 → Int32 → Int32 → Int32 → Int32 → zH → Option (Int32 × zH))  (hk11 : ∀ (l0 : Nat) (l1 : Int32) (l2 : Int32) (l3 : Int32) (l4 : Int32) (l5 : Int32) (l6 : Int32) (h : zH) (r : Int32 × zH), k11 l0 l1 l2 l3 l4 l5 l6 h = some r → zt xs (4) 66 11 [(0, .ref l0), (1, .int l1), (2, .int l2), (3, .int l3), (4, .int l4), (5, .int l5), (6, .int l6)] [] h 0 0 (zQ cI r)) (l0 : Nat) (l1 : Int32) (l2 : Int32) (l3 : Int32) (l5 : Int32) (l6 : Int32) (l7 : Int32) (h : zH) (r : Int32 × zH) (e : fW_countFactorsLike_56 N k11 l0 l1 l2 l3 l5 l6 l7 h = some r) : zt xs (4) 66 56 [(0, .ref l0), (1, .int l1), (2, .int l2), (3, .int l3), (5, .int l5), (6, .int l6), (7, .int l7)] [] h 0 0 (zQ cI r) := by
  have hy := mfW_countFactorsLike
  unfold fW_countFactorsLike_56 at e
  exact zl hy 6 (pc2 := 11) (lv2 := [(6, .int (l6 + Int32.ofInt 1)), (5, .int l7), (4, .int l5), (0, .ref l0), (1, .int l1), (2, .int l2), (3, .int l3), (7, .int l7)]) (st2 := []) rfl <| zt_sub (z_fc rfl (z_fc rfl (z_fc rfl (z_fc rfl (z_fc rfl (z_fc rfl (z_fc rfl (z_fn)))))))) <| hk11 l0 l1 l2 l3 l5 l7 (l6 + Int32.ofInt 1) h _ e
def fW_countFactorsLike_11 (N : Nat) : Nat → Nat → Int32 → Int32 → Int32 → Int32 → Int32 → Int32 → zH → Option (Int32 × zH)
  | 0, _, _, _, _, _, _, _, _ => none
  | n + 1, l0, l1, l2, l3, l4, l5, l6, h => b1 (fI h l0 4 1) fun x1 => cond (z_cmp .ge l6 x1) (fW_countFactorsLike_70 N  l3 h) (b1 (fI h l0 4 1) fun x2 => cond (z_cmp .ge l5 x2) (fW_countFactorsLike_70 N  l3 h) (b2 (fW_factorEnd N l0 l4 l5 h) fun x3 h4 => b2 (fW_order N l0 l5 x3 l0 l1 l2 h4) fun x5 h6 => cond (z_cmp .ne x5 (Int32.ofInt 0)) (fW_countFactorsLike_56 N (fW_countFactorsLike_11 N n ) l0 l1 l2 l3 l5 l6 x3 h6) (fW_countFactorsLike_56 N (fW_countFactorsLike_11 N n ) l0 l1 l2 (l3 + Int32.ofInt 1) l5 l6 x3 h6)))
theorem sfW_countFactorsLike_11 {xs : List Int32} (N : Nat)   : ∀ (n : Nat) (l0 : Nat) (l1 : Int32) (l2 : Int32) (l3 : Int32) (l4 : Int32) (l5 : Int32) (l6 : Int32) (h : zH) (r : Int32 × zH), fW_countFactorsLike_11 N n  l0 l1 l2 l3 l4 l5 l6 h = some r → zt xs (4) 66 11 [(0, .ref l0), (1, .int l1), (2, .int l2), (3, .int l3), (4, .int l4), (5, .int l5), (6, .int l6)] [] h 0 0 (zQ cI r) := by
  have hy := mfW_countFactorsLike
  intro n
  induction n with
  | zero =>
    intro l0 l1 l2 l3 l4 l5 l6 h r e
    rw [fW_countFactorsLike_11] at e
    cases e
  | succ n ih =>
    intro l0 l1 l2 l3 l4 l5 l6 h r e
    rw [fW_countFactorsLike_11] at e
    exact zl hy 2 (pc2 := 14) (lv2 := [(0, .ref l0), (1, .int l1), (2, .int l2), (3, .int l3), (4, .int l4), (5, .int l5), (6, .int l6)]) (st2 := [.ref l0, .int l6]) rfl <| zx_gI hy rfl e fun x1 _ e => zx_c hy rfl e (fun _ e => zt_sub (z_fc rfl (z_fn)) <| sfW_countFactorsLike_70 N   l3 h _ e) (fun _ e => zl hy 2 (pc2 := 23) (lv2 := [(0, .ref l0), (1, .int l1), (2, .int l2), (3, .int l3), (4, .int l4), (5, .int l5), (6, .int l6)]) (st2 := [.ref l0, .int l5]) rfl <| zx_gI hy rfl e fun x2 _ e => zx_c hy rfl e (fun _ e => zt_sub (z_fc rfl (z_fn)) <| sfW_countFactorsLike_70 N   l3 h _ e) (fun _ e => zl hy 3 (pc2 := 34) (lv2 := [(0, .ref l0), (1, .int l1), (2, .int l2), (3, .int l3), (4, .int l4), (5, .int l5), (6, .int l6)]) (st2 := [.int l5, .int l4, .ref l0]) rfl <| zx_call hy (as := [.ref l0, .int l4, .int l5]) (rest := []) (ov := (fun v => some (.int v))) (fun _ => rfl) rfl rfl (Or.inl rfl) rfl rfl (Nat.le_of_ble_eq_true rfl) (Nat.le_of_ble_eq_true rfl) (fun _ e _ => z_rcvT (rfW_factorEnd N l0 l4 l5 h _ e)) (fun _ e => zt_deep (Nat.le_of_ble_eq_true rfl) (sfW_factorEnd N l0 l4 l5 h _ e)) e fun x3 h4 _ e => zl hy 7 (pc2 := 47) (lv2 := [(7, .int x3), (0, .ref l0), (1, .int l1), (2, .int l2), (3, .int l3), (4, .int l4), (5, .int l5), (6, .int l6)]) (st2 := [.int l2, .int l1, .ref l0, .int x3, .int l5, .ref l0]) rfl <| zx_call hy (as := [.ref l0, .int l5, .int x3, .ref l0, .int l1, .int l2]) (rest := []) (ov := (fun v => some (.int v))) (fun _ => rfl) rfl rfl (Or.inl rfl) rfl rfl (Nat.le_of_ble_eq_true rfl) (Nat.le_of_ble_eq_true rfl) (fun _ e _ => z_rcvT (rfW_order N l0 l5 x3 l0 l1 l2 h4 _ e)) (fun _ e => zt_deep (Nat.le_of_ble_eq_true rfl) (sfW_order N l0 l5 x3 l0 l1 l2 h4 _ e)) e fun x5 h6 _ e => zx_c0 hy rfl e (fun _ e => zt_sub (z_fc rfl (z_fc rfl (z_fc rfl (z_fc rfl (z_fc rfl (z_fc rfl (z_fc rfl (z_fn)))))))) <| sfW_countFactorsLike_56 N (fW_countFactorsLike_11 N n ) ih l0 l1 l2 l3 l5 l6 x3 h6 _ e) (fun _ e => zl hy 1 (pc2 := 56) (lv2 := [(3, .int (l3 + Int32.ofInt 1)), (7, .int x3), (0, .ref l0), (1, .int l1), (2, .int l2), (4, .int l4), (5, .int l5), (6, .int l6)]) (st2 := []) rfl <| zt_sub (z_fc rfl (z_fc rfl (z_fc rfl (z_fc rfl (z_fc rfl (z_fc rfl (z_fc rfl (z_fn)))))))) <| sfW_countFactorsLike_56 N (fW_countFactorsLike_11 N n ) ih l0 l1 l2 (l3 + Int32.ofInt 1) l5 l6 x3 h6 _ e)))
def fW_countFactorsLike (N : Nat) (l0 : Nat) (l1 : Int32) (l2 : Int32) (h : zH) : Option (Int32 × zH) := cond (fT h l0 4) (fW_countFactorsLike_11 N N  l0 l1 l2 (Int32.ofInt 0) (Int32.ofInt 0) (Int32.ofInt 0) (Int32.ofInt 0) h) none
theorem sfW_countFactorsLike {xs : List Int32} (N : Nat) (l0 : Nat) (l1 : Int32) (l2 : Int32) (h : zH) (r : Int32 × zH) (e : fW_countFactorsLike N l0 l1 l2 h = some r) : zt xs (4) 66 0 [(0, .ref l0), (1, .int l1), (2, .int l2)] [] h 0 0 (zQ cI r) := by
  have hy := mfW_countFactorsLike
  unfold fW_countFactorsLike at e
  replace e := (cond_some e).2
  exact zl hy 8 (pc2 := 11) (lv2 := [(6, .int (Int32.ofInt 0)), (5, .int (Int32.ofInt 0)), (4, .int (Int32.ofInt 0)), (3, .int (Int32.ofInt 0)), (0, .ref l0), (1, .int l1), (2, .int l2)]) (st2 := []) rfl <| zt_sub (z_fc rfl (z_fc rfl (z_fc rfl (z_fc rfl (z_fc rfl (z_fc rfl (z_fc rfl (z_fn)))))))) <| sfW_countFactorsLike_11 N   N l0 l1 l2 (Int32.ofInt 0) (Int32.ofInt 0) (Int32.ofInt 0) (Int32.ofInt 0) h _ e
theorem rfW_countFactorsLike (N : Nat) (l0 : Nat) (l1 : Int32) (l2 : Int32) (h : zH) (r : Int32 × zH) (e : fW_countFactorsLike N l0 l1 l2 h = some r) : fT h l0 4 = true := by
  unfold fW_countFactorsLike at e
  exact (cond_some e).1
/-- LyndonBench$Word.isLyndonPart(II)Z -/
theorem mfW_isLyndonPart : z_me 67 zc_67 4 [] (some .boolean) := ⟨z_me0 rfl, rfl, rfl, rfl⟩
def fW_isLyndonPart_39 (N : Nat)  (s0 : Int32) (h : zH) : Option (Int32 × zH) := cond (decide (s0 = Int32.ofInt 0) || decide (s0 = Int32.ofInt 1)) (some (s0, h)) none
theorem sfW_isLyndonPart_39 {xs : List Int32} (N : Nat)   (s0 : Int32) (h : zH) (r : Int32 × zH) (e : fW_isLyndonPart_39 N  s0 h = some r) : zt xs (3) 67 39 [] [.int s0] h 0 0 (zQ cI r) := by
  have hy := mfW_isLyndonPart
  unfold fW_isLyndonPart_39 at e
  exact zx_retB hy rfl rfl e
def fW_isLyndonPart_4 (N : Nat) : Nat → Nat → Int32 → Int32 → Int32 → zH → Option (Int32 × zH)
  | 0, _, _, _, _, _ => none
  | n + 1, l0, l1, l2, l3, h => cond (z_cmp .ge l3 l2) (cond (z_cmp .ge l1 l2) (fW_isLyndonPart_39 N  (Int32.ofInt 0) h) (fW_isLyndonPart_39 N  (Int32.ofInt 1) h)) (b2 (fW_order N l0 l1 l2 l0 l3 l2 h) fun x1 h2 => cond (z_cmp .lt x1 (Int32.ofInt 0)) (fW_isLyndonPart_4 N n  l0 l1 l2 (l3 + Int32.ofInt 1) h2) (some ((Int32.ofInt 0), h2)))
theorem sfW_isLyndonPart_4 {xs : List Int32} (N : Nat)   : ∀ (n : Nat) (l0 : Nat) (l1 : Int32) (l2 : Int32) (l3 : Int32) (h : zH) (r : Int32 × zH), fW_isLyndonPart_4 N n  l0 l1 l2 l3 h = some r → zt xs (3) 67 4 [(0, .ref l0), (1, .int l1), (2, .int l2), (3, .int l3)] [] h 0 0 (zQ cI r) := by
  have hy := mfW_isLyndonPart
  intro n
  induction n with
  | zero =>
    intro l0 l1 l2 l3 h r e
    rw [fW_isLyndonPart_4] at e
    cases e
  | succ n ih =>
    intro l0 l1 l2 l3 h r e
    rw [fW_isLyndonPart_4] at e
    exact zl hy 2 (pc2 := 6) (lv2 := [(0, .ref l0), (1, .int l1), (2, .int l2), (3, .int l3)]) (st2 := [.int l2, .int l3]) rfl <| zx_c hy rfl e (fun _ e => zl hy 2 (pc2 := 31) (lv2 := [(0, .ref l0), (1, .int l1), (2, .int l2), (3, .int l3)]) (st2 := [.int l2, .int l1]) rfl <| zx_c hy rfl e (fun _ e => zl hy 1 (pc2 := 39) (lv2 := [(0, .ref l0), (1, .int l1), (2, .int l2), (3, .int l3)]) (st2 := [.int (Int32.ofInt 0)]) rfl <| zt_sub (z_fn) <| sfW_isLyndonPart_39 N   (Int32.ofInt 0) h _ e) (fun _ e => zl hy 2 (pc2 := 39) (lv2 := [(0, .ref l0), (1, .int l1), (2, .int l2), (3, .int l3)]) (st2 := [.int (Int32.ofInt 1)]) rfl <| zt_sub (z_fn) <| sfW_isLyndonPart_39 N   (Int32.ofInt 1) h _ e)) (fun _ e => zl hy 6 (pc2 := 15) (lv2 := [(0, .ref l0), (1, .int l1), (2, .int l2), (3, .int l3)]) (st2 := [.int l2, .int l3, .ref l0, .int l2, .int l1, .ref l0]) rfl <| zx_call hy (as := [.ref l0, .int l1, .int l2, .ref l0, .int l3, .int l2]) (rest := []) (ov := (fun v => some (.int v))) (fun _ => rfl) rfl rfl (Or.inl rfl) rfl rfl (Nat.le_of_ble_eq_true rfl) (Nat.le_of_ble_eq_true rfl) (fun _ e _ => z_rcvT (rfW_order N l0 l1 l2 l0 l3 l2 h _ e)) (fun _ e => zt_deep (Nat.le_of_ble_eq_true rfl) (sfW_order N l0 l1 l2 l0 l3 l2 h _ e)) e fun x1 h2 _ e => zx_c0 hy rfl e (fun _ e => zl hy 2 (pc2 := 4) (lv2 := [(3, .int (l3 + Int32.ofInt 1)), (0, .ref l0), (1, .int l1), (2, .int l2)]) (st2 := []) rfl <| zt_sub (z_fc rfl (z_fc rfl (z_fc rfl (z_fc rfl (z_fn))))) <| ih l0 l1 l2 (l3 + Int32.ofInt 1) h2 _ e) (fun _ e => zl hy 1 (pc2 := 22) (lv2 := [(0, .ref l0), (1, .int l1), (2, .int l2), (3, .int l3)]) (st2 := [.int (Int32.ofInt 0)]) rfl <| zx_ret hy (v := .int (Int32.ofInt 0)) rfl rfl (by decide) rfl e))
def fW_isLyndonPart (N : Nat) (l0 : Nat) (l1 : Int32) (l2 : Int32) (h : zH) : Option (Int32 × zH) := cond (fT h l0 4) (fW_isLyndonPart_4 N N  l0 l1 l2 (l1 + (Int32.ofInt 1)) h) none
theorem sfW_isLyndonPart {xs : List Int32} (N : Nat) (l0 : Nat) (l1 : Int32) (l2 : Int32) (h : zH) (r : Int32 × zH) (e : fW_isLyndonPart N l0 l1 l2 h = some r) : zt xs (3) 67 0 [(0, .ref l0), (1, .int l1), (2, .int l2)] [] h 0 0 (zQ cI r) := by
  have hy := mfW_isLyndonPart
  unfold fW_isLyndonPart at e
  replace e := (cond_some e).2
  exact zl hy 4 (pc2 := 4) (lv2 := [(3, .int (l1 + (Int32.ofInt 1))), (0, .ref l0), (1, .int l1), (2, .int l2)]) (st2 := []) rfl <| zt_sub (z_fc rfl (z_fc rfl (z_fc rfl (z_fc rfl (z_fn))))) <| sfW_isLyndonPart_4 N   N l0 l1 l2 (l1 + (Int32.ofInt 1)) h _ e
theorem rfW_isLyndonPart (N : Nat) (l0 : Nat) (l1 : Int32) (l2 : Int32) (h : zH) (r : Int32 × zH) (e : fW_isLyndonPart N l0 l1 l2 h = some r) : fT h l0 4 = true := by
  unfold fW_isLyndonPart at e
  exact (cond_some e).1
/-- LyndonBench$Word.hasPeriod(I)Z -/
theorem mfW_hasPeriod : z_me 69 zc_69 3 [] (some .boolean) := ⟨z_me0 rfl, rfl, rfl, rfl⟩
def fW_hasPeriod_2 (N : Nat) : Nat → Nat → Int32 → Int32 → zH → Option (Int32 × zH)
  | 0, _, _, _, _ => none
  | n + 1, l0, l1, l2, h => b1 (fI h l0 4 1) fun x1 => cond (z_cmp .ge l2 x1) (some ((Int32.ofInt 1), h)) (b2 (fW_at N l0 l2 h) fun x2 h3 => b2 (fW_at N l0 (l2 - l1) h3) fun x4 h5 => cond (z_cmp .eq x2 x4) (fW_hasPeriod_2 N n  l0 l1 (l2 + Int32.ofInt 1) h5) (some ((Int32.ofInt 0), h5)))
theorem sfW_hasPeriod_2 {xs : List Int32} (N : Nat)   : ∀ (n : Nat) (l0 : Nat) (l1 : Int32) (l2 : Int32) (h : zH) (r : Int32 × zH), fW_hasPeriod_2 N n  l0 l1 l2 h = some r → zt xs (2) 69 2 [(0, .ref l0), (1, .int l1), (2, .int l2)] [] h 0 0 (zQ cI r) := by
  have hy := mfW_hasPeriod
  intro n
  induction n with
  | zero =>
    intro l0 l1 l2 h r e
    rw [fW_hasPeriod_2] at e
    cases e
  | succ n ih =>
    intro l0 l1 l2 h r e
    rw [fW_hasPeriod_2] at e
    exact zl hy 2 (pc2 := 4) (lv2 := [(0, .ref l0), (1, .int l1), (2, .int l2)]) (st2 := [.ref l0, .int l2]) rfl <| zx_gI hy rfl e fun x1 _ e => zx_c hy rfl e (fun _ e => zl hy 1 (pc2 := 34) (lv2 := [(0, .ref l0), (1, .int l1), (2, .int l2)]) (st2 := [.int (Int32.ofInt 1)]) rfl <| zx_ret hy (v := .int (Int32.ofInt 1)) rfl rfl (by decide) rfl e) (fun _ e => zl hy 2 (pc2 := 12) (lv2 := [(0, .ref l0), (1, .int l1), (2, .int l2)]) (st2 := [.int l2, .ref l0]) rfl <| zx_call hy (as := [.ref l0, .int l2]) (rest := []) (ov := (fun v => some (.int v))) (fun _ => rfl) rfl rfl (Or.inl rfl) rfl rfl (Nat.le_of_ble_eq_true rfl) (Nat.le_of_ble_eq_true rfl) (fun _ e _ => z_rcvT (rfW_at N l0 l2 h _ e)) (fun _ e => zt_deep (Nat.le_of_ble_eq_true rfl) (sfW_at N l0 l2 h _ e)) e fun x2 h3 _ e => zl hy 4 (pc2 := 19) (lv2 := [(0, .ref l0), (1, .int l1), (2, .int l2)]) (st2 := [.int (l2 - l1), .ref l0, .int x2]) rfl <| zx_call hy (as := [.ref l0, .int (l2 - l1)]) (rest := [.int x2]) (ov := (fun v => some (.int v))) (fun _ => rfl) rfl rfl (Or.inl rfl) rfl rfl (Nat.le_of_ble_eq_true rfl) (Nat.le_of_ble_eq_true rfl) (fun _ e _ => z_rcvT (rfW_at N l0 (l2 - l1) h3 _ e)) (fun _ e => zt_deep (Nat.le_of_ble_eq_true rfl) (sfW_at N l0 (l2 - l1) h3 _ e)) e fun x4 h5 _ e => zx_c hy rfl e (fun _ e => zl hy 2 (pc2 := 2) (lv2 := [(2, .int (l2 + Int32.ofInt 1)), (0, .ref l0), (1, .int l1)]) (st2 := []) rfl <| zt_sub (z_fc rfl (z_fc rfl (z_fc rfl (z_fn)))) <| ih l0 l1 (l2 + Int32.ofInt 1) h5 _ e) (fun _ e => zl hy 1 (pc2 := 26) (lv2 := [(0, .ref l0), (1, .int l1), (2, .int l2)]) (st2 := [.int (Int32.ofInt 0)]) rfl <| zx_ret hy (v := .int (Int32.ofInt 0)) rfl rfl (by decide) rfl e))
def fW_hasPeriod (N : Nat) (l0 : Nat) (l1 : Int32) (h : zH) : Option (Int32 × zH) := cond (fT h l0 4) (fW_hasPeriod_2 N N  l0 l1 l1 h) none
theorem sfW_hasPeriod {xs : List Int32} (N : Nat) (l0 : Nat) (l1 : Int32) (h : zH) (r : Int32 × zH) (e : fW_hasPeriod N l0 l1 h = some r) : zt xs (2) 69 0 [(0, .ref l0), (1, .int l1)] [] h 0 0 (zQ cI r) := by
  have hy := mfW_hasPeriod
  unfold fW_hasPeriod at e
  replace e := (cond_some e).2
  exact zl hy 2 (pc2 := 2) (lv2 := [(2, .int l1), (0, .ref l0), (1, .int l1)]) (st2 := []) rfl <| zt_sub (z_fc rfl (z_fc rfl (z_fc rfl (z_fn)))) <| sfW_hasPeriod_2 N   N l0 l1 l1 h _ e
theorem rfW_hasPeriod (N : Nat) (l0 : Nat) (l1 : Int32) (h : zH) (r : Int32 × zH) (e : fW_hasPeriod N l0 l1 h = some r) : fT h l0 4 = true := by
  unfold fW_hasPeriod at e
  exact (cond_some e).1
/-- LyndonBench$Word.beginsNecklace()Z -/
theorem mfW_beginsNecklace : z_me 68 zc_68 1 [] (some .boolean) := ⟨z_me0 rfl, rfl, rfl, rfl⟩
def fW_beginsNecklace_24 (N : Nat)  (s0 : Int32) (h : zH) : Option (Int32 × zH) := cond (decide (s0 = Int32.ofInt 0) || decide (s0 = Int32.ofInt 1)) (some (s0, h)) none
theorem sfW_beginsNecklace_24 {xs : List Int32} (N : Nat)   (s0 : Int32) (h : zH) (r : Int32 × zH) (e : fW_beginsNecklace_24 N  s0 h = some r) : zt xs (3) 68 24 [] [.int s0] h 0 0 (zQ cI r) := by
  have hy := mfW_beginsNecklace
  unfold fW_beginsNecklace_24 at e
  exact zx_retB hy rfl rfl e
def fW_beginsNecklace_23 (N : Nat)   (h : zH) : Option (Int32 × zH) := fW_beginsNecklace_24 N  (Int32.ofInt 0) h
theorem sfW_beginsNecklace_23 {xs : List Int32} (N : Nat)    (h : zH) (r : Int32 × zH) (e : fW_beginsNecklace_23 N   h = some r) : zt xs (3) 68 23 [] [] h 0 0 (zQ cI r) := by
  have hy := mfW_beginsNecklace
  unfold fW_beginsNecklace_23 at e
  exact zl hy 1 (pc2 := 24) (lv2 := []) (st2 := [.int (Int32.ofInt 0)]) rfl <| zt_sub (z_fn) <| sfW_beginsNecklace_24 N   (Int32.ofInt 0) h _ e
def fW_beginsNecklace (N : Nat) (l0 : Nat) (h : zH) : Option (Int32 × zH) := cond (fT h l0 4) (b1 (fI h l0 4 1) fun x1 => cond (z_cmp .le x1 (Int32.ofInt 0)) (fW_beginsNecklace_23 N   h) (b2 (fW_lyndonEnd N l0 (Int32.ofInt 0) h) fun x2 h3 => b2 (fW_hasPeriod N l0 x2 h3) fun x4 h5 => cond (z_cmp .eq x4 (Int32.ofInt 0)) (fW_beginsNecklace_23 N   h5) (fW_beginsNecklace_24 N  (Int32.ofInt 1) h5))) none
theorem sfW_beginsNecklace {xs : List Int32} (N : Nat) (l0 : Nat) (h : zH) (r : Int32 × zH) (e : fW_beginsNecklace N l0 h = some r) : zt xs (3) 68 0 [(0, .ref l0)] [] h 0 0 (zQ cI r) := by
  have hy := mfW_beginsNecklace
  unfold fW_beginsNecklace at e
  replace e := (cond_some e).2
  exact zl hy 1 (pc2 := 1) (lv2 := [(0, .ref l0)]) (st2 := [.ref l0]) rfl <| zx_gI hy rfl e fun x1 _ e => zx_c0 hy rfl e (fun _ e => zt_sub (z_fn) <| sfW_beginsNecklace_23 N    h _ e) (fun _ e => zl hy 3 (pc2 := 10) (lv2 := [(0, .ref l0)]) (st2 := [.int (Int32.ofInt 0), .ref l0, .ref l0]) rfl <| zx_call hy (as := [.ref l0, .int (Int32.ofInt 0)]) (rest := [.ref l0]) (ov := (fun v => some (.int v))) (fun _ => rfl) rfl rfl (Or.inl rfl) rfl rfl (Nat.le_of_ble_eq_true rfl) (Nat.le_of_ble_eq_true rfl) (fun _ e _ => z_rcvT (rfW_lyndonEnd N l0 (Int32.ofInt 0) h _ e)) (fun _ e => zt_deep (Nat.le_of_ble_eq_true rfl) (sfW_lyndonEnd N l0 (Int32.ofInt 0) h _ e)) e fun x2 h3 _ e => zx_call hy (as := [.ref l0, .int x2]) (rest := []) (ov := (fun v => some (.int v))) (fun _ => rfl) rfl rfl (Or.inl rfl) rfl rfl (Nat.le_of_ble_eq_true rfl) (Nat.le_of_ble_eq_true rfl) (fun _ e _ => z_rcvT (rfW_hasPeriod N l0 x2 h3 _ e)) (fun _ e => zt_deep (Nat.le_of_ble_eq_true rfl) (sfW_hasPeriod N l0 x2 h3 _ e)) e fun x4 h5 _ e => zx_c0 hy rfl e (fun _ e => zt_sub (z_fn) <| sfW_beginsNecklace_23 N    h5 _ e) (fun _ e => zl hy 2 (pc2 := 24) (lv2 := [(0, .ref l0)]) (st2 := [.int (Int32.ofInt 1)]) rfl <| zt_sub (z_fn) <| sfW_beginsNecklace_24 N   (Int32.ofInt 1) h5 _ e))
theorem rfW_beginsNecklace (N : Nat) (l0 : Nat) (h : zH) (r : Int32 × zH) (e : fW_beginsNecklace N l0 h = some r) : fT h l0 4 = true := by
  unfold fW_beginsNecklace at e
  exact (cond_some e).1
/-- LyndonBench$Word.leastPeriod()I -/
theorem mfW_leastPeriod : z_me 70 zc_70 2 [] (some .int) := ⟨z_me0 rfl, rfl, rfl, rfl⟩
def fW_leastPeriod_2 (N : Nat) : Nat → Nat → Int32 → zH → Option (Int32 × zH)
  | 0, _, _, _ => none
  | n + 1, l0, l1, h => b1 (fI h l0 4 1) fun x1 => cond (z_cmp .ge l1 x1) (b1 (fI h l0 4 1) fun x2 => some (x2, h)) (b2 (fW_hasPeriod N l0 l1 h) fun x3 h4 => cond (z_cmp .eq x3 (Int32.ofInt 0)) (fW_leastPeriod_2 N n  l0 (l1 + Int32.ofInt 1) h4) (some (l1, h4)))
theorem sfW_leastPeriod_2 {xs : List Int32} (N : Nat)   : ∀ (n : Nat) (l0 : Nat) (l1 : Int32) (h : zH) (r : Int32 × zH), fW_leastPeriod_2 N n  l0 l1 h = some r → zt xs (3) 70 2 [(0, .ref l0), (1, .int l1)] [] h 0 0 (zQ cI r) := by
  have hy := mfW_leastPeriod
  intro n
  induction n with
  | zero =>
    intro l0 l1 h r e
    rw [fW_leastPeriod_2] at e
    cases e
  | succ n ih =>
    intro l0 l1 h r e
    rw [fW_leastPeriod_2] at e
    exact zl hy 2 (pc2 := 4) (lv2 := [(0, .ref l0), (1, .int l1)]) (st2 := [.ref l0, .int l1]) rfl <| zx_gI hy rfl e fun x1 _ e => zx_c hy rfl e (fun _ e => zl hy 1 (pc2 := 27) (lv2 := [(0, .ref l0), (1, .int l1)]) (st2 := [.ref l0]) rfl <| zx_gI hy rfl e fun x2 _ e => zx_ret hy rfl rfl rfl rfl e) (fun _ e => zl hy 2 (pc2 := 12) (lv2 := [(0, .ref l0), (1, .int l1)]) (st2 := [.int l1, .ref l0]) rfl <| zx_call hy (as := [.ref l0, .int l1]) (rest := []) (ov := (fun v => some (.int v))) (fun _ => rfl) rfl rfl (Or.inl rfl) rfl rfl (Nat.le_of_ble_eq_true rfl) (Nat.le_of_ble_eq_true rfl) (fun _ e _ => z_rcvT (rfW_hasPeriod N l0 l1 h _ e)) (fun _ e => zt_deep (Nat.le_of_ble_eq_true rfl) (sfW_hasPeriod N l0 l1 h _ e)) e fun x3 h4 _ e => zx_c0 hy rfl e (fun _ e => zl hy 2 (pc2 := 2) (lv2 := [(1, .int (l1 + Int32.ofInt 1)), (0, .ref l0)]) (st2 := []) rfl <| zt_sub (z_fc rfl (z_fc rfl (z_fn))) <| ih l0 (l1 + Int32.ofInt 1) h4 _ e) (fun _ e => zl hy 1 (pc2 := 19) (lv2 := [(0, .ref l0), (1, .int l1)]) (st2 := [.int l1]) rfl <| zx_ret hy rfl rfl rfl rfl e))
def fW_leastPeriod (N : Nat) (l0 : Nat) (h : zH) : Option (Int32 × zH) := cond (fT h l0 4) (fW_leastPeriod_2 N N  l0 (Int32.ofInt 1) h) none
theorem sfW_leastPeriod {xs : List Int32} (N : Nat) (l0 : Nat) (h : zH) (r : Int32 × zH) (e : fW_leastPeriod N l0 h = some r) : zt xs (3) 70 0 [(0, .ref l0)] [] h 0 0 (zQ cI r) := by
  have hy := mfW_leastPeriod
  unfold fW_leastPeriod at e
  replace e := (cond_some e).2
  exact zl hy 2 (pc2 := 2) (lv2 := [(1, .int (Int32.ofInt 1)), (0, .ref l0)]) (st2 := []) rfl <| zt_sub (z_fc rfl (z_fc rfl (z_fn))) <| sfW_leastPeriod_2 N   N l0 (Int32.ofInt 1) h _ e
theorem rfW_leastPeriod (N : Nat) (l0 : Nat) (h : zH) (r : Int32 × zH) (e : fW_leastPeriod N l0 h = some r) : fT h l0 4 = true := by
  unfold fW_leastPeriod at e
  exact (cond_some e).1
/-- LyndonBench$Word.countTurns()I -/
theorem mfW_countTurns : z_me 71 zc_71 2 [] (some .int) := ⟨z_me0 rfl, rfl, rfl, rfl⟩
def fW_countTurns_26 (N : Nat)  (s0 : Int32) (h : zH) : Option (Int32 × zH) := some (s0, h)
theorem sfW_countTurns_26 {xs : List Int32} (N : Nat)   (s0 : Int32) (h : zH) (r : Int32 × zH) (e : fW_countTurns_26 N  s0 h = some r) : zt xs (4) 71 26 [] [.int s0] h 0 0 (zQ cI r) := by
  have hy := mfW_countTurns
  unfold fW_countTurns_26 at e
  exact zx_ret hy rfl rfl rfl rfl e
def fW_countTurns_22 (N : Nat)  (l0 : Nat) (h : zH) : Option (Int32 × zH) := b1 (fI h l0 4 1) fun x3 => fW_countTurns_26 N  x3 h
theorem sfW_countTurns_22 {xs : List Int32} (N : Nat)   (l0 : Nat) (h : zH) (r : Int32 × zH) (e : fW_countTurns_22 N  l0 h = some r) : zt xs (4) 71 22 [(0, .ref l0)] [] h 0 0 (zQ cI r) := by
  have hy := mfW_countTurns
  unfold fW_countTurns_22 at e
  exact zl hy 1 (pc2 := 23) (lv2 := [(0, .ref l0)]) (st2 := [.ref l0]) rfl <| zx_gI hy rfl e fun x3 _ e => zt_sub (z_fn) <| sfW_countTurns_26 N   x3 h _ e
def fW_countTurns (N : Nat) (l0 : Nat) (h : zH) : Option (Int32 × zH) := cond (fT h l0 4) (b2 (fW_leastPeriod N l0 h) fun x1 h2 => cond (z_cmp .le x1 (Int32.ofInt 0)) (fW_countTurns_22 N  l0 h2) (b1 (fI h2 l0 4 1) fun x3 => (if x1 = Int32.ofInt 0 then none else cond (z_cmp .ne (x3 - x3 / x1 * x1) (Int32.ofInt 0)) (fW_countTurns_22 N  l0 h2) (fW_countTurns_26 N  x1 h2)))) none
theorem sfW_countTurns {xs : List Int32} (N : Nat) (l0 : Nat) (h : zH) (r : Int32 × zH) (e : fW_countTurns N l0 h = some r) : zt xs (4) 71 0 [(0, .ref l0)] [] h 0 0 (zQ cI r) := by
  have hy := mfW_countTurns
  unfold fW_countTurns at e
  replace e := (cond_some e).2
  exact zl hy 1 (pc2 := 1) (lv2 := [(0, .ref l0)]) (st2 := [.ref l0]) rfl <| zx_call hy (as := [.ref l0]) (rest := []) (ov := (fun v => some (.int v))) (fun _ => rfl) rfl rfl (Or.inl rfl) rfl rfl (Nat.le_of_ble_eq_true rfl) (Nat.le_of_ble_eq_true rfl) (fun _ e _ => z_rcvT (rfW_leastPeriod N l0 h _ e)) (fun _ e => zt_deep (Nat.le_of_ble_eq_true rfl) (sfW_leastPeriod N l0 h _ e)) e fun x1 h2 _ e => zl hy 2 (pc2 := 6) (lv2 := [(1, .int x1), (0, .ref l0)]) (st2 := [.int x1]) rfl <| zx_c0 hy rfl e (fun _ e => zt_sub (z_fc rfl (z_fn)) <| sfW_countTurns_22 N   l0 h2 _ e) (fun _ e => zl hy 1 (pc2 := 10) (lv2 := [(1, .int x1), (0, .ref l0)]) (st2 := [.ref l0]) rfl <| zx_gI hy rfl e fun x3 _ e => zl hy 1 (pc2 := 14) (lv2 := [(1, .int x1), (0, .ref l0)]) (st2 := [.int x1, .int x3]) rfl <| zx_rem hy (G := fun _ => cond (z_cmp .ne (x3 - x3 / x1 * x1) (Int32.ofInt 0)) (fW_countTurns_22 N  l0 h2) (fW_countTurns_26 N  x1 h2)) rfl e fun _ e => zx_c0 hy rfl e (fun _ e => zt_sub (z_fc rfl (z_fn)) <| sfW_countTurns_22 N   l0 h2 _ e) (fun _ e => zl hy 2 (pc2 := 26) (lv2 := [(1, .int x1), (0, .ref l0)]) (st2 := [.int x1]) rfl <| zt_sub (z_fn) <| sfW_countTurns_26 N   x1 h2 _ e))
theorem rfW_countTurns (N : Nat) (l0 : Nat) (h : zH) (r : Int32 × zH) (e : fW_countTurns N l0 h = some r) : fT h l0 4 = true := by
  unfold fW_countTurns at e
  exact (cond_some e).1
/-- LyndonBench$Word.extremeEnding(I)I -/
theorem mfW_extremeEnding : z_me 74 zc_74 4 [] (some .int) := ⟨z_me0 rfl, rfl, rfl, rfl⟩
def fW_extremeEnding_57 (N : Nat)  (s0 : Int32) (h : zH) : Option (Int32 × zH) := some (s0, h)
theorem sfW_extremeEnding_57 {xs : List Int32} (N : Nat)   (s0 : Int32) (h : zH) (r : Int32 × zH) (e : fW_extremeEnding_57 N  s0 h = some r) : zt xs (3) 74 57 [] [.int s0] h 0 0 (zQ cI r) := by
  have hy := mfW_extremeEnding
  unfold fW_extremeEnding_57 at e
  exact zx_ret hy rfl rfl rfl rfl e
def fW_extremeEnding_39 (N : Nat) (k14 : Nat → Int32 → Int32 → Int32 → zH → Option (Int32 × zH)) (l0 : Nat) (l1 : Int32) (l2 : Int32) (l3 : Int32) (h : zH) : Option (Int32 × zH) := k14 l0 l1 l2 (l3 + Int32.ofInt (-1)) h
theorem sfW_extremeEnding_39 {xs : List Int32} (N : Nat) (k14 : Nat → Int32 → Int32 → Int32 → zH → Option (Int32 × zH))  (hk14 : ∀ (l0 : Nat) (l1 : Int32) (l2 : Int32) (l3 : Int32) (h : zH) (r : Int32 × zH), k14 l0 l1 l2 l3 h = some r → zt xs (3) 74 14 [(0, .ref l0), (1, .int l1), (2, .int l2), (3, .int l3)] [] h 0 0 (zQ cI r)) (l0 : Nat) (l1 : Int32) (l2 : Int32) (l3 : Int32) (h : zH) (r : Int32 × zH) (e : fW_extremeEnding_39 N k14 l0 l1 l2 l3 h = some r) : zt xs (3) 74 39 [(0, .ref l0), (1, .int l1), (2, .int l2), (3, .int l3)] [] h 0 0 (zQ cI r) := by
  have hy := mfW_extremeEnding
  unfold fW_extremeEnding_39 at e
  exact zl hy 2 (pc2 := 14) (lv2 := [(3, .int (l3 + Int32.ofInt (-1))), (0, .ref l0), (1, .int l1), (2, .int l2)]) (st2 := []) rfl <| zt_sub (z_fc rfl (z_fc rfl (z_fc rfl (z_fc rfl (z_fn))))) <| hk14 l0 l1 l2 (l3 + Int32.ofInt (-1)) h _ e
def fW_extremeEnding_14 (N : Nat) : Nat → Nat → Int32 → Int32 → Int32 → zH → Option (Int32 × zH)
  | 0, _, _, _, _, _ => none
  | n + 1, l0, l1, l2, l3, h => cond (z_cmp .lt l3 (Int32.ofInt 0)) (b1 (fI h l0 4 1) fun x3 => cond (z_cmp .ne x3 (Int32.ofInt 0)) (fW_extremeEnding_57 N  l2 h) (fW_extremeEnding_57 N  (Int32.ofInt (-1)) h)) (b1 (fI h l0 4 1) fun x4 => b1 (fI h l0 4 1) fun x5 => b2 (fW_order N l0 l3 x4 l0 l2 x5 h) fun x6 h7 => cond (z_cmp .ne x6 l1) (fW_extremeEnding_39 N (fW_extremeEnding_14 N n ) l0 l1 l2 l3 h7) (fW_extremeEnding_39 N (fW_extremeEnding_14 N n ) l0 l1 l3 l3 h7))
theorem sfW_extremeEnding_14 {xs : List Int32} (N : Nat)   : ∀ (n : Nat) (l0 : Nat) (l1 : Int32) (l2 : Int32) (l3 : Int32) (h : zH) (r : Int32 × zH), fW_extremeEnding_14 N n  l0 l1 l2 l3 h = some r → zt xs (3) 74 14 [(0, .ref l0), (1, .int l1), (2, .int l2), (3, .int l3)] [] h 0 0 (zQ cI r) := by
  have hy := mfW_extremeEnding
  intro n
  induction n with
  | zero =>
    intro l0 l1 l2 l3 h r e
    rw [fW_extremeEnding_14] at e
    cases e
  | succ n ih =>
    intro l0 l1 l2 l3 h r e
    rw [fW_extremeEnding_14] at e
    exact zl hy 1 (pc2 := 15) (lv2 := [(0, .ref l0), (1, .int l1), (2, .int l2), (3, .int l3)]) (st2 := [.int l3]) rfl <| zx_c0 hy rfl e (fun _ e => zl hy 1 (pc2 := 46) (lv2 := [(0, .ref l0), (1, .int l1), (2, .int l2), (3, .int l3)]) (st2 := [.ref l0]) rfl <| zx_gI hy rfl e fun x3 _ e => zx_c0 hy rfl e (fun _ e => zl hy 1 (pc2 := 57) (lv2 := [(0, .ref l0), (1, .int l1), (2, .int l2), (3, .int l3)]) (st2 := [.int l2]) rfl <| zt_sub (z_fn) <| sfW_extremeEnding_57 N   l2 h _ e) (fun _ e => zl hy 2 (pc2 := 57) (lv2 := [(0, .ref l0), (1, .int l1), (2, .int l2), (3, .int l3)]) (st2 := [.int (Int32.ofInt (-1))]) rfl <| zt_sub (z_fn) <| sfW_extremeEnding_57 N   (Int32.ofInt (-1)) h _ e)) (fun _ e => zl hy 3 (pc2 := 21) (lv2 := [(0, .ref l0), (1, .int l1), (2, .int l2), (3, .int l3)]) (st2 := [.ref l0, .int l3, .ref l0]) rfl <| zx_gI hy rfl e fun x4 _ e => zl hy 3 (pc2 := 27) (lv2 := [(0, .ref l0), (1, .int l1), (2, .int l2), (3, .int l3)]) (st2 := [.ref l0, .int l2, .ref l0, .int x4, .int l3, .ref l0]) rfl <| zx_gI hy rfl e fun x5 _ e => zx_call hy (as := [.ref l0, .int l3, .int x4, .ref l0, .int l2, .int x5]) (rest := []) (ov := (fun v => some (.int v))) (fun _ => rfl) rfl rfl (Or.inl rfl) rfl rfl (Nat.le_of_ble_eq_true rfl) (Nat.le_of_ble_eq_true rfl) (fun _ e _ => z_rcvT (rfW_order N l0 l3 x4 l0 l2 x5 h _ e)) (fun _ e => zt_deep (Nat.le_of_ble_eq_true rfl) (sfW_order N l0 l3 x4 l0 l2 x5 h _ e)) e fun x6 h7 _ e => zl hy 1 (pc2 := 34) (lv2 := [(0, .ref l0), (1, .int l1), (2, .int l2), (3, .int l3)]) (st2 := [.int l1, .int x6]) rfl <| zx_c hy rfl e (fun _ e => zt_sub (z_fc rfl (z_fc rfl (z_fc rfl (z_fc rfl (z_fn))))) <| sfW_extremeEnding_39 N (fW_extremeEnding_14 N n ) ih l0 l1 l2 l3 h7 _ e) (fun _ e => zl hy 2 (pc2 := 39) (lv2 := [(2, .int l3), (0, .ref l0), (1, .int l1), (3, .int l3)]) (st2 := []) rfl <| zt_sub (z_fc rfl (z_fc rfl (z_fc rfl (z_fc rfl (z_fn))))) <| sfW_extremeEnding_39 N (fW_extremeEnding_14 N n ) ih l0 l1 l3 l3 h7 _ e))
def fW_extremeEnding (N : Nat) (l0 : Nat) (l1 : Int32) (h : zH) : Option (Int32 × zH) := cond (fT h l0 4) (b1 (fI h l0 4 1) fun x1 => b1 (fI h l0 4 1) fun x2 => fW_extremeEnding_14 N N  l0 l1 (x1 - (Int32.ofInt 1)) (x2 - (Int32.ofInt 2)) h) none
theorem sfW_extremeEnding {xs : List Int32} (N : Nat) (l0 : Nat) (l1 : Int32) (h : zH) (r : Int32 × zH) (e : fW_extremeEnding N l0 l1 h = some r) : zt xs (3) 74 0 [(0, .ref l0), (1, .int l1)] [] h 0 0 (zQ cI r) := by
  have hy := mfW_extremeEnding
  unfold fW_extremeEnding at e
  replace e := (cond_some e).2
  exact zl hy 1 (pc2 := 1) (lv2 := [(0, .ref l0), (1, .int l1)]) (st2 := [.ref l0]) rfl <| zx_gI hy rfl e fun x1 _ e => zl hy 4 (pc2 := 8) (lv2 := [(2, .int (x1 - (Int32.ofInt 1))), (0, .ref l0), (1, .int l1)]) (st2 := [.ref l0]) rfl <| zx_gI hy rfl e fun x2 _ e => zl hy 3 (pc2 := 14) (lv2 := [(3, .int (x2 - (Int32.ofInt 2))), (2, .int (x1 - (Int32.ofInt 1))), (0, .ref l0), (1, .int l1)]) (st2 := []) rfl <| zt_sub (z_fc rfl (z_fc rfl (z_fc rfl (z_fc rfl (z_fn))))) <| sfW_extremeEnding_14 N   N l0 l1 (x1 - (Int32.ofInt 1)) (x2 - (Int32.ofInt 2)) h _ e
theorem rfW_extremeEnding (N : Nat) (l0 : Nat) (l1 : Int32) (h : zH) (r : Int32 × zH) (e : fW_extremeEnding N l0 l1 h = some r) : fT h l0 4 = true := by
  unfold fW_extremeEnding at e
  exact (cond_some e).1
/-- LyndonBench.append(IIIII)I -/
theorem mfB_append : z_me 77 zc_77 7 [] (some .int) := ⟨z_me0 rfl, rfl, rfl, rfl⟩
def fB_append (N : Nat) (l0 : Nat) (l1 : Int32) (l2 : Int32) (l3 : Int32) (l4 : Int32) (l5 : Int32) (h : zH) : Option (Int32 × zH) := cond (fT h l0 0) (b1 (fR h l0 0 4) fun x1 => b1 (fR h x1 2 0) fun x2 => b1 (fI h x2 4 1) fun x3 => cond (z_cmp .le x3 (Int32.ofInt 580)) (b2 (fW_addFourBytes N x2 l1 h) fun _ h5 => b2 (fW_addFourBytes N x2 l2 h5) fun _ h7 => b2 (fW_addFourBytes N x2 l3 h7) fun _ h9 => b2 (fW_addFourBytes N x2 l4 h9) fun _ h11 => b2 (fW_addFourBytes N x2 l5 h11) fun _ h13 => b1 (fI h13 x2 4 1) fun x14 => some (x14, h13)) (some ((Int32.ofInt (-1)), h))) none
theorem sfB_append {xs : List Int32} (N : Nat) (l0 : Nat) (l1 : Int32) (l2 : Int32) (l3 : Int32) (l4 : Int32) (l5 : Int32) (h : zH) (r : Int32 × zH) (e : fB_append N l0 l1 l2 l3 l4 l5 h = some r) : zt xs (3) 77 0 [(0, .ref l0), (1, .int l1), (2, .int l2), (3, .int l3), (4, .int l4), (5, .int l5)] [] h 0 0 (zQ cI r) := by
  have hy := mfB_append
  unfold fB_append at e
  replace e := (cond_some e).2
  exact zl hy 1 (pc2 := 1) (lv2 := [(0, .ref l0), (1, .int l1), (2, .int l2), (3, .int l3), (4, .int l4), (5, .int l5)]) (st2 := [.ref l0]) rfl <| zx_gR hy rfl e fun x1 _ e => zx_gR hy rfl e fun x2 _ e => zl hy 2 (pc2 := 11) (lv2 := [(6, .ref x2), (0, .ref l0), (1, .int l1), (2, .int l2), (3, .int l3), (4, .int l4), (5, .int l5)]) (st2 := [.ref x2]) rfl <| zx_gI hy rfl e fun x3 _ e => zx_sip hy (c := 580) rfl (by decide) <| zx_c hy rfl e (fun _ e => zl hy 2 (pc2 := 25) (lv2 := [(6, .ref x2), (0, .ref l0), (1, .int l1), (2, .int l2), (3, .int l3), (4, .int l4), (5, .int l5)]) (st2 := [.int l1, .ref x2]) rfl <| zx_call hy (as := [.ref x2, .int l1]) (rest := []) (ov := (fun _ => none)) (fun _ => rfl) rfl rfl (Or.inl rfl) rfl rfl (Nat.le_of_ble_eq_true rfl) (Nat.le_of_ble_eq_true rfl) (fun _ e _ => z_rcvT (rfW_addFourBytes N x2 l1 h _ e)) (fun _ e => zt_deep (Nat.le_of_ble_eq_true rfl) (sfW_addFourBytes N x2 l1 h _ e)) e fun _ h5 _ e => zl hy 2 (pc2 := 31) (lv2 := [(6, .ref x2), (0, .ref l0), (1, .int l1), (2, .int l2), (3, .int l3), (4, .int l4), (5, .int l5)]) (st2 := [.int l2, .ref x2]) rfl <| zx_call hy (as := [.ref x2, .int l2]) (rest := []) (ov := (fun _ => none)) (fun _ => rfl) rfl rfl (Or.inl rfl) rfl rfl (Nat.le_of_ble_eq_true rfl) (Nat.le_of_ble_eq_true rfl) (fun _ e _ => z_rcvT (rfW_addFourBytes N x2 l2 h5 _ e)) (fun _ e => zt_deep (Nat.le_of_ble_eq_true rfl) (sfW_addFourBytes N x2 l2 h5 _ e)) e fun _ h7 _ e => zl hy 2 (pc2 := 37) (lv2 := [(6, .ref x2), (0, .ref l0), (1, .int l1), (2, .int l2), (3, .int l3), (4, .int l4), (5, .int l5)]) (st2 := [.int l3, .ref x2]) rfl <| zx_call hy (as := [.ref x2, .int l3]) (rest := []) (ov := (fun _ => none)) (fun _ => rfl) rfl rfl (Or.inl rfl) rfl rfl (Nat.le_of_ble_eq_true rfl) (Nat.le_of_ble_eq_true rfl) (fun _ e _ => z_rcvT (rfW_addFourBytes N x2 l3 h7 _ e)) (fun _ e => zt_deep (Nat.le_of_ble_eq_true rfl) (sfW_addFourBytes N x2 l3 h7 _ e)) e fun _ h9 _ e => zl hy 2 (pc2 := 44) (lv2 := [(6, .ref x2), (0, .ref l0), (1, .int l1), (2, .int l2), (3, .int l3), (4, .int l4), (5, .int l5)]) (st2 := [.int l4, .ref x2]) rfl <| zx_call hy (as := [.ref x2, .int l4]) (rest := []) (ov := (fun _ => none)) (fun _ => rfl) rfl rfl (Or.inl rfl) rfl rfl (Nat.le_of_ble_eq_true rfl) (Nat.le_of_ble_eq_true rfl) (fun _ e _ => z_rcvT (rfW_addFourBytes N x2 l4 h9 _ e)) (fun _ e => zt_deep (Nat.le_of_ble_eq_true rfl) (sfW_addFourBytes N x2 l4 h9 _ e)) e fun _ h11 _ e => zl hy 2 (pc2 := 51) (lv2 := [(6, .ref x2), (0, .ref l0), (1, .int l1), (2, .int l2), (3, .int l3), (4, .int l4), (5, .int l5)]) (st2 := [.int l5, .ref x2]) rfl <| zx_call hy (as := [.ref x2, .int l5]) (rest := []) (ov := (fun _ => none)) (fun _ => rfl) rfl rfl (Or.inl rfl) rfl rfl (Nat.le_of_ble_eq_true rfl) (Nat.le_of_ble_eq_true rfl) (fun _ e _ => z_rcvT (rfW_addFourBytes N x2 l5 h11 _ e)) (fun _ e => zt_deep (Nat.le_of_ble_eq_true rfl) (sfW_addFourBytes N x2 l5 h11 _ e)) e fun _ h13 _ e => zl hy 1 (pc2 := 56) (lv2 := [(6, .ref x2), (0, .ref l0), (1, .int l1), (2, .int l2), (3, .int l3), (4, .int l4), (5, .int l5)]) (st2 := [.ref x2]) rfl <| zx_gI hy rfl e fun x14 _ e => zx_ret hy rfl rfl rfl rfl e) (fun _ e => zl hy 1 (pc2 := 21) (lv2 := [(6, .ref x2), (0, .ref l0), (1, .int l1), (2, .int l2), (3, .int l3), (4, .int l4), (5, .int l5)]) (st2 := [.int (Int32.ofInt (-1))]) rfl <| zx_ret hy rfl rfl rfl rfl e)
theorem rfB_append (N : Nat) (l0 : Nat) (l1 : Int32) (l2 : Int32) (l3 : Int32) (l4 : Int32) (l5 : Int32) (h : zH) (r : Int32 × zH) (e : fB_append N l0 l1 l2 l3 l4 l5 h = some r) : fT h l0 0 = true := by
  unfold fB_append at e
  exact (cond_some e).1
