/-! THE LAW'S START: the two fresh objects and the answer's cell. -/
noncomputable def za_h2 : zH := za_m2 ++ [(103, List.replicate 1 (.long 0))]
theorem z_m2len : za_m2.length = 243 := za_m2len
theorem z_h1len : za_h1.length = 232 := by decide +kernel
theorem z_fT1 : fT (za_h1 ++ [(5, za_fresh 5)]) 232 5 = true := by decide +kernel
section ZBG
variable {xs : List Int32} {C S : Nat} {Q : (Option Value ⊕ Nat) → zH → Prop}
set_option maxRecDepth 100000 in
theorem z_bM1 : zt xs 67 147 100 [(0, .ref 232)] [.ref 1000047, .ref 232] za_m0 0 0 (zQ cV ((), za_m2)) := by
  have hy : z_me 147 zc_147 (za_P.2.1 147) (za_P.2.2.1 147) none := ⟨z_me0 rfl, rfl, rfl, rfl⟩
  have e : (b2 (fM_tell 100 232 1000047 za_m0) fun _ h2 => b2 (fM_parses 4000 232 h2) fun _ h4 => b1 (fS h4 232 5 17 (.int (Int32.ofInt 0))) fun h5 => some ((), h5)) = some ((), za_m2) := by
    rw [z_tell, b2]
    exact za_m2e
  exact zx_call hy (as := [.ref 232, .ref 1000047]) (rest := []) (ov := (fun _ => none)) (fun _ => rfl) rfl rfl (Or.inl rfl) rfl rfl (Nat.le_of_ble_eq_true rfl) (Nat.le_of_ble_eq_true rfl) (fun _ e _ => z_rcvT (rfM_tell 100 232 1000047 _ _ e)) (fun _ e => zt_deep (Nat.le_of_ble_eq_true rfl) (sfM_tell 100 232 1000047 _ _ e)) e fun x2 h3 _ e => zl hy 1 (pc2 := 104) (lv2 := [(0, .ref 232)]) (st2 := [.ref 232]) rfl <| zx_call hy (as := [.ref 232]) (rest := []) (ov := (fun v => some (.int v))) (fun _ => rfl) rfl rfl (Or.inl rfl) rfl rfl (Nat.le_of_ble_eq_true rfl) (Nat.le_of_ble_eq_true rfl) (fun _ e _ => z_rcvT (rfM_parses 4000 232 _ _ e)) (fun _ e => zt_deep (Nat.le_of_ble_eq_true rfl) (sfM_parses 4000 232 _ _ e)) e fun x4 h5 _ e => zl hy 3 (pc2 := 110) (lv2 := [(0, .ref 232)]) (st2 := [.int (Int32.ofInt 0), .ref 232]) rfl <| zx_pf hy rfl e (rfl) fun h6 _ e => zx_retV hy rfl rfl e
theorem z_bM : zt xs 67 147 0 [(0, .ref 232)] [] (za_h1 ++ [(5, za_fresh 5)]) 10 6823 (zQ cV ((), za_m2)) := by
  obtain ⟨f, o, h2, c2, s2, hr, h1, h4, hq⟩ := z_bM1 (xs := xs)
  refine ⟨f + 47, o, h2, c2 + 10, s2 + 6823, ?_, by omega, by omega, hq⟩
  have e1 := z_it_run (xs := xs) (d := 67) (y := 147) 47 0 [(0, .ref 232)] [] (za_h1 ++ [(5, za_fresh 5)]) 0 0 100 _ _ _ _ _ z_init2 f
  have e2 := z_more f 67 147 100 _ _ _ 0 0 o h2 c2 s2 hr f 67 [(0, .ref 232)] 10 6823 (Nat.le_refl _) (Nat.le_refl _) (Or.inl rfl)
  rw [Nat.zero_add, Nat.zero_add] at e2
  exact e1.trans e2
theorem z_bB : zt xs 67 76 0 [(0, .ref 0)] [] [(0, za_fresh 0)] 231 6163 (fun o g => o = .inl none ∧ g = za_h1) :=
  zt_deep (d := 12) (Nat.le_of_ble_eq_true rfl) ⟨8000, .inl none, za_h1, 231, 6163, z_runb _ _ _ _ _ _ _ _ _ _ z_init1, Nat.le_refl _, Nat.le_refl _, rfl, rfl⟩
set_option maxRecDepth 100000 in
theorem z_begin (k : zt xs 68 327 23 [(0, .ref 1000074), (1, .ref 0), (2, .ref 232), (3, .ref 243), (4, .int (Int32.ofInt 0))] [] za_h2 C S Q) : zt xs 68 327 0 [(0, .ref 1000074)] [] [] (1 + (231 + (1 + (10 + (1 + C))))) (7 + (6163 + (24 + (6823 + (1 + S))))) Q := by
  have hy : z_me 327 zc_327 9 [] (some .boolean) := ⟨z_me0 rfl, rfl, rfl, rfl⟩
  refine z_step1 hy (i := .new 8) (len := 3) (a := 0) (b := 7) (pc2 := 3) (dc := 1) (ds := 7) (st2 := [.ref 0]) (h2 := [(0, za_fresh 0)]) rfl rfl rfl ?_
  refine zl hy 1 (pc2 := 4) (lv2 := [(0, .ref 1000074)]) (st2 := [.ref 0, .ref 0]) rfl ?_
  refine z_call hy (k0 := 7) (i := .invokespecial 100) (len := 3) (a := 76) (b := 0) (c1 := 231) (s1 := 6163) (as := [.ref 0]) (rest := [.ref 0]) (v := none) (h2 := za_h1) rfl rfl (Or.inr (Or.inr rfl)) rfl rfl (Nat.le_of_ble_eq_true rfl) (Nat.le_of_ble_eq_true rfl) (fun _ => rfl) z_bB ?_
  refine zl hy 1 (pc2 := 8) (lv2 := [(1, .ref 0), (0, .ref 1000074)]) (st2 := []) rfl ?_
  refine z_step1 hy (i := .new 101) (len := 3) (a := 5) (b := 24) (pc2 := 11) (dc := 1) (ds := 24) (st2 := [.ref 232]) (h2 := za_h1 ++ [(5, za_fresh 5)]) rfl rfl (by simp only [z_hp, z_mk, z_h1len]; rfl) ?_
  refine zl hy 1 (pc2 := 12) (lv2 := [(1, .ref 0), (0, .ref 1000074)]) (st2 := [.ref 232, .ref 232]) rfl ?_
  refine z_call hy (k0 := 7) (i := .invokespecial 103) (len := 3) (a := 147) (b := 0) (c1 := 10) (s1 := 6823) (as := [.ref 232]) (rest := [.ref 232]) (v := none) (h2 := za_m2) rfl rfl (Or.inr (Or.inr rfl)) rfl rfl (Nat.le_of_ble_eq_true rfl) (Nat.le_of_ble_eq_true rfl) (fun _ => z_rcvT z_fT1) z_bM ?_
  refine zl hy 2 (pc2 := 17) (lv2 := [(2, .ref 232), (1, .ref 0), (0, .ref 1000074)]) (st2 := [.int (Int32.ofInt 1)]) rfl ?_
  refine z_step1 hy (i := .newarray .long) (len := 2) (a := 0) (b := 0) (pc2 := 19) (dc := 1) (ds := 1) (st2 := [.ref 243]) (h2 := za_h2) rfl rfl ?_ ?_
  · simp only [z_hp]
    rw [if_pos (by decide)]
    show z_mk 19 103 1 (List.replicate 1 (.long 0)) [] za_m2 = _
    simp only [z_mk, z_m2len]
    rfl
  refine zl hy 3 (pc2 := 23) (lv2 := [(4, .int (Int32.ofInt 0)), (3, .ref 243), (2, .ref 232), (1, .ref 0), (0, .ref 1000074)]) (st2 := []) rfl ?_
  refine zt_sub ?_ k
  exact z_fc rfl (z_fc rfl (z_fc rfl (z_fc rfl (z_fc rfl z_fn))))
end ZBG
