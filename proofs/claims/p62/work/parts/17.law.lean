/-! THE LAW'S RUN out of a pure run. -/
theorem ze_run {p : Program} {e : Env} {s : State} {m : MethodId} {below : List Frame} {meth : Method} {c : Code} (l : Launch) (hflags : l.flags = flags0) {b L : Nat} {xs : Nat → Int32} (hLs : L < 2 ^ 31) (C0 : lw_At p s m meth c b L xs)
    (hz : ∃ (f d : Nat) (h2 : zH) (c2 s2 : Nat), d + 1 ≤ 12 ∧ 35 * d + 20 ≤ 452 ∧ c2 ≤ 600086 ∧ s2 ≤ 7301442 ∧ z_run (za_T ((List.range L).map xs)) za_P f d 95 0 [(0, .ref 1000004)] [] [] 0 0 = some (.inl (some (.int 1)), h2, c2, s2)) : W p l e room_1 s m #[Value.ref b] below meth c s.heap [] 0 0 (lw_Z below #[Value.ref b] s) (entryFrame m ([Value.ref b] : List Value).toArray 8) := by
  obtain ⟨f, d, h2, c2, s2, hd1, hd2, hc2, hs2, hr⟩ := hz
  obtain ⟨D, tys, ad0, hfx, hb0, hok⟩ := ze_fx hLs C0
  obtain ⟨hx, hcode, hret, hml, hown, hts, hX, hbl, hlk, hgv⟩ := C0
  have hl0 : l.stackTraces = false := by unfold Launch.stackTraces; rw [hflags]; decide +kernel
  have hent := lv_entry ([Value.ref b] : List Value) (n := 8) (Nat.le_of_ble_eq_true rfl)
  rw [lg_entry_eq]
  generalize (lg_sl [Value.ref b] ++ List.replicate (8 - (lg_sl [Value.ref b]).length) Slot.unset).toArray = ls at hent ⊢
  have hcv : z_cv ad0 (.ref 1000004) = .ref b := congrArg va_rf hb0
  have hl : lv_has ls 8 (z_lvm ad0 [(0, .ref 1000004)]) := by
    show lv_has ls 8 [(0, z_cv ad0 (.ref 1000004))]
    rw [hcv]
    exact hent
  refine z_Sall hok hl0 za_nh f d 95 0 [(0, .ref 1000004)] [] [] 0 0 (.inl (some (.int 1))) h2 c2 s2 hr ⟨_, rfl⟩ p e room_1 s m #[Value.ref b] below meth c s.heap [] ls ad0 ad0 0 _ hx hcode hml hown (fun w hw => hts w (List.mem_filter.mp hw).1) (fun z => absurd (show "law" = "<init>" from z) (by decide +kernel)) (fun z => absurd rfl z) hfx ⟨hd1, hd2⟩ hc2 hs2 z_ext.rf z_ext.rf (Nat.le_refl _) ⟨[], fun k q hq => (by cases hq), ⟨fun i j p q hp => (by cases hp), fun k q hq => (by cases hq)⟩, rfl, fun k c hk => (by cases hk)⟩ va_S.rf (fun c hc => by cases hc) (fun q hq => ?_) (fun v hv => by cases hv) hl ?_
  · rw [List.mem_singleton] at hq
    subst hq
    exact Or.inr (Nat.le_of_ble_eq_true rfl)
  · intro pc' i v ls' H' locs' ad' hdec ho hro hxt hw' hS' hv2 hn2 hvv
    cases ho
    have hi : i = .ireturn := by
      have h9 : z_rok i (some .boolean) (.int 1) = true := hro
      unfold z_rok at h9
      split at h9 <;> first
        | rfl
        | (exfalso; simp_all; done)
        | cases h9
    subst hi
    refine va_forget (fun q hq => hS'.2.2 q hq) ?_
    refine W.widen hc2 hs2 ?_
    exact lw_ret (s := s) hx hcode hret hlk hdec
