/-! THE FIRST CALL: append. -/
theorem b1_s {α β : Type} (a : α) (g : α → Option β) : b1 (some a) g = g a := rfl
theorem zi_T {h : zH} {q t : Nat} {vs : List Value} (hq : q < 1000000) (e : h[q]? = some (t, vs)) : fT h q t = true := by
  unfold fT
  rw [zh_hg hq e]
  exact Nat.beq_refl t
theorem zi_N {h : zH} {q t : Nat} {vs : List Value} (hq : q < 1000000) (e : h[q]? = some (t, vs)) : fN h q t = some (Int32.ofNat vs.length) := by
  unfold fN
  rw [zh_hg hq e]
  show cond (Nat.beq t t) _ _ = _
  rw [Nat.beq_refl]
  rfl
/-- the class's input so far -/
def zi_B (h : zH) (s : Nat) : Prop := h.length = 244 ∧ h[204]? = some (4, [.ref 205, .int (Int32.ofInt (s : Int))]) ∧ (∃ R, h[205]? = some (101, R) ∧ R.length = 600) ∧ h[232]? = za_h2[232]? ∧ h[237]? = za_h2[237]?
theorem zi_add {h : zH} {s : Nat} {v : Int32} (i : zi_B h s) (hs : s < 600) : ∃ h', fW_add 3000 204 v h = some ((), h') ∧ zi_B h' (s + 1) := by
  obtain ⟨i1, i2, ⟨R, i3, i4⟩, i5, i6⟩ := i
  refine ⟨(h.set 205 (101, R.set s (.int (vp_nar .byte v.toInt8.toInt32)))).set 204 (4, [.ref 205, .int (Int32.ofInt ((s + 1 : Nat) : Int))]), ?_, ?_, ?_, ⟨R.set s (.int (vp_nar .byte v.toInt8.toInt32)), ?_, ?_⟩, ?_, ?_⟩
  · have hs0 : z_cmp .lt (Int32.ofInt (s : Int)) (Int32.ofInt 0) = false := by
      rw [zj_lt _ 0 (by decide), Int32.toInt_ofInt_of_le (by omega) (by omega)]
      exact decide_eq_false (by omega)
    have hs1 : z_cmp .ge (Int32.ofInt (s : Int)) (Int32.ofNat R.length) = false := by
      rw [i4, show Int32.ofNat 600 = Int32.ofInt 600 from rfl, zh_ge s 600 (by omega) (by decide)]
      exact decide_eq_false (by omega)
    have i7 : (h.set 205 (101, R.set s (.int (vp_nar .byte v.toInt8.toInt32))))[204]? = some (4, [.ref 205, .int (Int32.ofInt (s : Int))]) := (zh_set (by decide)).trans i2
    unfold fW_add
    rw [zi_T (by decide) i2, cond_true, zh_I (b := 1) (by decide) i2 rfl, b1, hs0, cond_false, b1, zh_R (b := 0) (by decide) i2 rfl, b1, zi_N (by decide) i3, b1, hs1, cond_false, b1, b1, zh_AS i3 (by omega) (by omega), b1, zh_I (b := 1) (by decide) i7 rfl, b1, zh_inc, zh_S i7 (Nat.lt_succ_self 1), b1]
    rfl
  · rw [List.length_set, List.length_set]; exact i1
  · exact List.getElem?_set_self (by rw [List.length_set]; omega)
  · rw [zh_set (by decide)]; exact List.getElem?_set_self (by omega)
  · rw [List.length_set]; exact i4
  · rw [zh_set (by decide), zh_set (by decide)]; exact i5
  · rw [zh_set (by decide), zh_set (by decide)]; exact i6
theorem zi_four {h : zH} {s : Nat} {v : Int32} (i : zi_B h s) (hs : s + 4 ≤ 600) : ∃ h', fW_addFourBytes 3000 204 v h = some ((), h') ∧ zi_B h' (s + 4) := by
  obtain ⟨h1, e1, i1⟩ := zi_add (v := v >>> (Int32.ofInt 24 &&& 31)) i (by omega)
  obtain ⟨h2, e2, i2⟩ := zi_add (v := v >>> (Int32.ofInt 16 &&& 31)) i1 (by omega)
  obtain ⟨h3, e3, i3⟩ := zi_add (v := v >>> (Int32.ofInt 8 &&& 31)) i2 (by omega)
  obtain ⟨h4, e4, i4⟩ := zi_add (v := v >>> (Int32.ofInt 0 &&& 31)) i3 (by omega)
  refine ⟨h4, ?_, i4⟩
  unfold fW_addFourBytes
  rw [zi_T (by decide) i.2.1, cond_true]
  rw [fW_addFourBytes_3, show z_cmp .lt (Int32.ofInt 24) (Int32.ofInt 0) = false from rfl, cond_false, e1, b2, show Int32.ofInt 24 + Int32.ofInt (-8) = Int32.ofInt 16 from rfl]
  rw [fW_addFourBytes_3, show z_cmp .lt (Int32.ofInt 16) (Int32.ofInt 0) = false from rfl, cond_false, e2, b2, show Int32.ofInt 16 + Int32.ofInt (-8) = Int32.ofInt 8 from rfl]
  rw [fW_addFourBytes_3, show z_cmp .lt (Int32.ofInt 8) (Int32.ofInt 0) = false from rfl, cond_false, e3, b2, show Int32.ofInt 8 + Int32.ofInt (-8) = Int32.ofInt 0 from rfl]
  rw [fW_addFourBytes_3, show z_cmp .lt (Int32.ofInt 0) (Int32.ofInt 0) = false from rfl, cond_false, e4, b2, show Int32.ofInt 0 + Int32.ofInt (-8) = Int32.ofInt (-8) from rfl]
  rw [fW_addFourBytes_3, show z_cmp .lt (Int32.ofInt (-8)) (Int32.ofInt 0) = true from rfl, cond_true]
/-- the reference's buffer so far -/
def zi_M (h : zH) (s : Nat) : Prop := (∃ vs, h[232]? = some (5, vs) ∧ vs.length = 24 ∧ vs[6]? = some (.ref 237) ∧ vs[10]? = some (.int (Int32.ofInt (s : Int)))) ∧ (∃ R, h[237]? = some (100, R) ∧ R.length = 600) ∧ h.length = 244
theorem zi_typ {N n : Nat} {h : zH} {s : Nat} {v l2 : Int32} (hl : z_cmp .lt l2 (Int32.ofInt 0) = false) (i : zi_M h s) (hs : s < 600) : ∃ h', fM_type_3 N (n + 1) 232 v l2 h = fM_type_3 N n 232 v (l2 + Int32.ofInt (-8)) h' ∧ zi_M h' (s + 1) := by
  obtain ⟨⟨vs, i1, i2, i3, i4⟩, ⟨R, i5, i6⟩, i7⟩ := i
  refine ⟨(h.set 237 (100, R.set s (.int ((v >>> (l2 &&& 31)) &&& Int32.ofInt 255)))).set 232 (5, vs.set 10 (.int (Int32.ofInt ((s + 1 : Nat) : Int)))), ?_, ⟨_, List.getElem?_set_self (by rw [List.length_set]; omega), ?_, ?_, ?_⟩, ⟨R.set s (.int ((v >>> (l2 &&& 31)) &&& Int32.ofInt 255)), ?_, ?_⟩, ?_⟩
  · have i8 : (h.set 237 (100, R.set s (.int ((v >>> (l2 &&& 31)) &&& Int32.ofInt 255))))[232]? = some (5, vs) := (zh_set (by decide)).trans i1
    rw [fM_type_3, hl, cond_false, zh_R (by decide) i1 i3, b1, zh_I (by decide) i1 i4, b1, zh_AS i5 (by omega) (by omega), b1, zh_I (by decide) i8 i4, b1, zh_inc, zh_S i8 (by omega), b1]
  · rw [List.length_set]; exact i2
  · rw [List.getElem?_set_ne (by decide)]; exact i3
  · exact List.getElem?_set_self (by omega)
  · rw [zh_set (by decide)]; exact List.getElem?_set_self (by omega)
  · rw [List.length_set]; exact i6
  · rw [List.length_set, List.length_set]; exact i7
theorem zi_type {h : zH} {s : Nat} {v : Int32} (i : zi_M h s) (hs : s + 4 ≤ 600) : ∃ h', fM_type 3000 232 v h = some ((), h') ∧ zi_M h' (s + 4) := by
  obtain ⟨h1, e1, i1⟩ := zi_typ (N := 3000) (n := 2999) (v := v) (l2 := Int32.ofInt 24) rfl i (by omega)
  obtain ⟨h2, e2, i2⟩ := zi_typ (N := 3000) (n := 2998) (v := v) (l2 := Int32.ofInt 16) rfl i1 (by omega)
  obtain ⟨h3, e3, i3⟩ := zi_typ (N := 3000) (n := 2997) (v := v) (l2 := Int32.ofInt 8) rfl i2 (by omega)
  obtain ⟨h4, e4, i4⟩ := zi_typ (N := 3000) (n := 2996) (v := v) (l2 := Int32.ofInt 0) rfl i3 (by omega)
  refine ⟨h4, ?_, i4⟩
  obtain ⟨⟨vs, j1, _⟩, _⟩ := i
  unfold fM_type
  rw [zi_T (by decide) j1, cond_true]
  refine e1.trans (e2.trans (e3.trans (e4.trans ?_)))
  rfl
theorem z_f0 (a b c d e : Int32) : z_eqA (fun h => fB_append 3000 0 a b c d e h) (fun h => fM_append 3000 232 a b c d e h) za_h2 = true := by
  have i0 : zi_B za_h2 0 := ⟨by decide +kernel, by decide +kernel, ⟨List.replicate 600 (.int (Int32.ofInt 0)), by decide +kernel, List.length_replicate⟩, rfl, rfl⟩
  obtain ⟨h1, e1, i1⟩ := zi_four (v := a) i0 (by omega)
  obtain ⟨h2, e2, i2⟩ := zi_four (v := b) i1 (by omega)
  obtain ⟨h3, e3, i3⟩ := zi_four (v := c) i2 (by omega)
  obtain ⟨h4, e4, i4⟩ := zi_four (v := d) i3 (by omega)
  obtain ⟨h5, e5, i5⟩ := zi_four (v := e) i4 (by omega)
  have eB : fB_append 3000 0 a b c d e za_h2 = some (Int32.ofInt 20, h5) := by
    unfold fB_append
    rw [zf_T0, cond_true, zf_scr, b1, zf_src, b1, zf_srcsz, b1, show z_cmp .le (Int32.ofInt 0) (Int32.ofInt 580) = true from rfl, cond_true, e1, b2, e2, b2, e3, b2, e4, b2, e5, b2, zh_I (b := 1) (by decide) i5.2.1 rfl]
    rfl
  obtain ⟨vs, w1, w2, w3, w4, w5⟩ : ∃ vs, za_h2[232]? = some (5, vs) ∧ vs.length = 24 ∧ vs[6]? = some (.ref 237) ∧ vs[10]? = some (.int (Int32.ofInt 0)) ∧ vs[17]? = some (.int (Int32.ofInt 0)) := ⟨_, rfl, rfl, rfl, rfl, rfl⟩
  obtain ⟨R, r1, r2⟩ : ∃ R, za_h2[237]? = some (100, R) ∧ R.length = 600 := ⟨List.replicate 600 (.int (Int32.ofInt 0)), by decide +kernel, List.length_replicate⟩
  have x1 : h5[232]? = some (5, vs) := i5.2.2.2.1.trans w1
  have m0 : zi_M (h5.set 232 (5, vs.set 17 (.int (Int32.ofInt 0)))) 0 := by
    refine ⟨⟨_, List.getElem?_set_self (by rw [i5.1]; decide), by rw [List.length_set]; exact w2, by rw [List.getElem?_set_ne (by decide)]; exact w3, by rw [List.getElem?_set_ne (by decide)]; exact w4⟩, ⟨R, ?_, r2⟩, by rw [List.length_set]; exact i5.1⟩
    rw [zh_set (by decide)]
    exact i5.2.2.2.2.trans r1
  obtain ⟨g1, f1, m1⟩ := zi_type (v := a) m0 (by omega)
  obtain ⟨g2, f2, m2⟩ := zi_type (v := b) m1 (by omega)
  obtain ⟨g3, f3, m3⟩ := zi_type (v := c) m2 (by omega)
  obtain ⟨g4, f4, m4⟩ := zi_type (v := d) m3 (by omega)
  obtain ⟨g5, f5, m5⟩ := zi_type (v := e) m4 (by omega)
  obtain ⟨⟨us, u1, u2, u3, u4⟩, _⟩ := m5
  have y0 : fI (h5.set 232 (5, vs.set 17 (.int (Int32.ofInt 0)))) 232 5 10 = some (Int32.ofInt 0) := by
    obtain ⟨⟨us, u1, u2, u3, u4⟩, _⟩ := m0
    exact zh_I (by decide) u1 u4
  have eM : fM_append 3000 232 a b c d e h5 = some (Int32.ofInt 20, g5) := by
    unfold fM_append
    rw [zi_T (by decide) x1, cond_true, zh_S x1 (by omega), b1, y0, b1, show z_cmp .le (Int32.ofInt 0 + Int32.ofInt 20) (Int32.ofInt 600) = true from rfl, cond_true, f1, b2, f2, b2, f3, b2, f4, b2, f5, b2, zh_I (by decide) u1 u4]
    rfl
  unfold z_eqA
  simp only [eB, eM]
  rfl
