/-! THE LAW out of its F function. -/
theorem z_lawR {xs : List Int32} {n N : Nat} {h' : zH} (hn : n ≤ 3000) (e : fL_law_23 xs N n 0 232 243 (Int32.ofInt 0) za_h2 = some (Int32.ofInt 1, h')) : ∃ (f d : Nat) (h2 : zH) (c2 s2 : Nat), d + 10 ≤ 2048 ∧ 60 * d + 300 ≤ 84000 ∧ c2 ≤ 601024 ∧ s2 ≤ 7293034 ∧ z_run (za_T xs) za_P f d 327 0 [(0, .ref 1000074)] [] [] 0 0 = some (.inl (some (.int 1)), h2, c2, s2) := by
  obtain ⟨f, o, h2, c2, s2, hr, h1, h4, hq⟩ := z_begin (sfL_law_23 N n 0 232 243 (Int32.ofInt 0) za_h2 _ e)
  have ho : o = .inl (some (.int 1)) := hq.1
  subst ho
  have hx : zxc (.inl (some (.int 1))) = 0 := rfl
  rw [hx] at h1 h4
  exact ⟨f, 68, h2, c2, s2, by omega, by omega, by omega, by omega, hr⟩
/-- whole_start's walk out of the F function's answer on the fresh objects -/
theorem z_lawW {p : Program} {e : Env} {s : State} {m : MethodId} {below : List Frame} {meth : Method} {c : Code} (l : Launch) (hflags : l.flags = flags0) {b L : Nat} {xs : Nat → Int32} (hLs : L < 2 ^ 31) (C0 : lw_At p s m meth c b L xs)
    (hz : ∃ (n N : Nat) (h' : zH), n ≤ 3000 ∧ fL_law_23 ((List.range L).map xs) N n 0 232 243 (Int32.ofInt 0) za_h2 = some (Int32.ofInt 1, h')) : W p l e room_1 s m #[Value.ref b] below meth c s.heap [] 0 0 (lw_Z below #[Value.ref b] s) (entryFrame m ([Value.ref b] : List Value).toArray 9) := by
  obtain ⟨n, N, h', hn, h1⟩ := hz
  exact ze_run l hflags hLs C0 (z_lawR hn h1)
