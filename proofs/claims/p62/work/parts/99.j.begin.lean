/-! p62: THE LAW'S START: the fresh object. -/
theorem z_h1len : za_h1.length = 232 := by decide +kernel
section ZBG
variable {xs : List Int32} {C S : Nat} {Q : (Option Value ⊕ Nat) → zH → Prop}
theorem z_bB : zt xs 7 44 0 [(0, .ref 0)] [] [(0, za_fresh 0)] 231 6163 (fun o g => o = .inl none ∧ g = za_h1) := ⟨8000, .inl none, za_h1, 231, 6163, z_runb _ _ _ _ _ _ _ _ _ _ z_init1, Nat.le_refl _, Nat.le_refl _, rfl, rfl⟩
set_option maxRecDepth 100000 in
theorem z_begin (k : zt xs 8 95 8 [(0, .ref 1000004), (1, .ref 0)] [] za_h1 C S Q) : zt xs 8 95 0 [(0, .ref 1000004)] [] [] (1 + (231 + C)) (7 + (6163 + S)) Q := by
  have hy : z_me 95 zc_95 8 [] (some .boolean) := ⟨rfl, rfl, rfl, rfl⟩
  refine z_step1 hy (i := .new 8) (len := 3) (a := 0) (b := 7) (pc2 := 3) (dc := 1) (ds := 7) (st2 := [.ref 0]) (h2 := [(0, za_fresh 0)]) rfl rfl rfl ?_
  refine zl hy 1 (pc2 := 4) (lv2 := [(0, .ref 1000004)]) (st2 := [.ref 0, .ref 0]) rfl ?_
  refine z_call hy (k0 := 7) (i := .invokespecial 139) (len := 3) (a := 44) (b := 0) (c1 := 231) (s1 := 6163) (as := [.ref 0]) (rest := [.ref 0]) (v := none) (h2 := za_h1) rfl rfl (Or.inr (Or.inr rfl)) rfl rfl (Nat.le_of_ble_eq_true rfl) (Nat.le_of_ble_eq_true rfl) (fun _ => rfl) z_bB ?_
  refine zl hy 1 (pc2 := 8) (lv2 := [(1, .ref 0), (0, .ref 1000004)]) (st2 := []) rfl ?_
  refine zt_sub ?_ k
  exact z_fc rfl (z_fc rfl z_fn)
end ZBG
theorem z_lawR {xs : List Int32} {N : Nat} {h' : zH} (e : fL_law_8 xs N 0 za_h1 = some (Int32.ofInt 1, h')) : ∃ (f d : Nat) (h2 : zH) (c2 s2 : Nat), d + 1 ≤ 12 ∧ 35 * d + 20 ≤ 452 ∧ c2 ≤ 600086 ∧ s2 ≤ 7301442 ∧ z_run (za_T xs) za_P f d 95 0 [(0, .ref 1000004)] [] [] 0 0 = some (.inl (some (.int 1)), h2, c2, s2) := by
  obtain ⟨f, o, h2, c2, s2, hr, h1, h4, hq⟩ := z_begin (sfL_law_8 N 0 za_h1 _ e)
  have ho : o = .inl (some (.int 1)) := hq.1
  subst ho
  have hx : zxc (.inl (some (.int 1))) = 0 := rfl
  rw [hx] at h1 h4
  exact ⟨f, 8, h2, c2, s2, by omega, by omega, by omega, by omega, hr⟩
