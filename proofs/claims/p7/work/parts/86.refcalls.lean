/-! THE REFERENCE'S joinKept, the end. -/
section ZYO
variable {N : Nat} {h : zH} {fl fl' : Nat → Int} {a a' : Nat → Nat → Int} {bef now snap : zA} {hist : List zA} {sv t : Int} {inp : List Nat} {rep : zvP} {T : List Nat}
theorem zr_joins34 (ok : zv_ok now) {j : Nat} (hj : j < now.2.2.length) {x y : Int32} {k9 : Nat → Int32 → Int32 → zH → Option (Int32 × zH)} : ∀ (c f i : Nat) (h : zH) (fl : Nat → Int) (a : Nat → Nat → Int) (u : List Nat), zr h fl a → zy_is (a 233) now → zr_rw fl a u → i + c = (now.2.2.getD j []).length → c < f → u.length + c ≤ 120 → ∃ h1 fl1 a1, fM_joins_34 N f k9 232 x y (Int32.ofInt (j : Int)) (Int32.ofInt (i : Int)) h = k9 232 x (y + Int32.ofInt 1) h1 ∧ zr h1 fl1 a1 ∧ zr_F h h1 ∧ zr_Q fl a fl1 a1 ∧ zr_rw fl1 a1 (u ++ (now.2.2.getD j []).drop i) := by
  have o4 := ok.2.2.2.1
  have wj := ok.2.2.2.2 _ (zv_kmem hj)
  have c1 : ∀ i : Nat, Int32.ofInt 131 + Int32.ofInt 40 * Int32.ofInt (i : Int) = Int32.ofInt ((131 + 40 * i : Nat) : Int) := fun i => by
    rw [← Int32.ofInt_mul, ← Int32.ofInt_add]
    rfl
  intro c
  induction c with
  | zero =>
    intro f i h fl a u H A r h1 h2 h3
    obtain ⟨g, rfl⟩ : ∃ g, f = g + 1 := ⟨f - 1, by omega⟩
    have g1 : fAI h 233 100 (Int32.ofInt (123 + (j : Int))) = some (Int32.ofInt ((now.2.2.getD j []).length : Int)) := by
      rw [show 123 + (j : Int) = ((123 + j : Nat) : Int) by omega, zr_w H _ (by omega), (A.2.2.2.2 j hj).1]
    refine ⟨h, fl, a, ?_, H, zr_Fr h, zr_Qr fl a, ?_⟩
    · rw [fM_joins_34, zr_r0 H, b1_s, zw_add, g1, b1_s, zqo_ge _ _ (by omega) (by omega), decide_eq_true (by omega), cond_true]
    · rw [List.drop_eq_nil_of_le (by omega), List.append_nil]
      exact r
  | succ c ih =>
    intro f i h fl a u H A r h1 h2 h3
    obtain ⟨g, rfl⟩ : ∃ g, f = g + 1 := ⟨f - 1, by omega⟩
    have hi : i < (now.2.2.getD j []).length := by omega
    have g1 : fAI h 233 100 (Int32.ofInt (123 + (j : Int))) = some (Int32.ofInt ((now.2.2.getD j []).length : Int)) := by
      rw [show 123 + (j : Int) = ((123 + j : Nat) : Int) by omega, zr_w H _ (by omega), (A.2.2.2.2 j hj).1]
    have g2 : fAI h 233 100 (Int32.ofInt (((131 + 40 * j : Nat) : Int) + (i : Int))) = some (Int32.ofInt (((now.2.2.getD j []).getD i 0 : Int) - 97)) := by
      rw [show ((131 + 40 * j : Nat) : Int) + (i : Int) = ((131 + 40 * j + i : Nat) : Int) by omega, zr_w H _ (by omega), (A.2.2.2.2 j hj).2 i hi]
    obtain ⟨h5, f5, a5, e5, H5, F5, Q5, r5⟩ := zr_adds (N := N) H r (by omega) ((now.2.2.getD j []).getD i 0)
    have e33 : a5 233 = a 233 := funext fun i => Q5.2 233 i (by decide) (by decide)
    obtain ⟨h6, f6, a6, e6, H6, F6, Q6, r6⟩ := ih g (i + 1) h5 f5 a5 _ H5 (by rw [e33]; exact A) r5 (by omega) (by omega) (by rw [List.length_append]; show u.length + 1 + c ≤ 120; omega)
    refine ⟨h6, f6, a6, ?_, H6, zr_Ft F5 F6, zr_Qt Q5 Q6, ?_⟩
    · rw [fM_joins_34, zr_r0 H, b1_s, zw_add, g1, b1_s, zqo_ge _ _ (by omega) (by omega), decide_eq_false (by omega), cond_false, b1_s, c1, zw_add, g2, b1_s, e5, b2, zh_inc]
      exact e6
    · have ed : (now.2.2.getD j []).drop i = (now.2.2.getD j []).getD i 0 :: (now.2.2.getD j []).drop (i + 1) := by
        rw [List.drop_eq_getElem_cons hi, List.getD_eq_getElem?_getD (l := now.2.2.getD j []), List.getElem?_eq_getElem hi]
        rfl
      rw [ed, List.append_cons]
      exact r6
theorem zr_joins9 (hN : 1000 ≤ N) (ok : zv_ok now) : ∀ (c f i m : Nat) (h : zH) (fl : Nat → Int) (a : Nat → Nat → Int) (u : List Nat), zr h fl a → zyR fl a now hist snap sv inp rep t → zr_rw fl a u → i + c = now.2.2.length → c < f → m < 256 → zs_us (fun _ => [0]) m now.2.2.length 0 = c → u.length + zs_us (fun j => now.2.2.getD j []) m now.2.2.length 0 ≤ 120 → ∃ h1 fl1 a1 g, fM_joins_9 N f 232 (Int32.ofInt (m : Int)) (Int32.ofInt (i : Int)) h = b2 (fM_takes N 232 h1) (fun x4 h5 => some (x4, h5)) ∧ zr h1 fl1 a1 ∧ zr_F h h1 ∧ zr_Q fl a fl1 a1 ∧ g = zs_jn (fun j => now.2.2.getD j []) now.2.2.length c m u ∧ zr_rw fl1 a1 g ∧ g.length ≤ 120 := by
  have o4 := ok.2.2.2.1
  intro c
  induction c with
  | zero =>
    intro f i m h fl a u H R r h1 h2 h3 h4 h5
    obtain ⟨g, rfl⟩ : ∃ g, f = g + 1 := ⟨f - 1, by omega⟩
    have g2 : fAI h 233 100 (Int32.ofInt 2) = some (Int32.ofInt (a 233 2)) := zr_w H 2 (by decide)
    refine ⟨h, fl, a, u, ?_, H, zr_Fr h, zr_Qr fl a, rfl, r, by omega⟩
    rw [fM_joins_9, zr_r0 H, b1_s, g2, b1_s, R.1.2.2.2.1, zqo_ge _ _ (by omega) (by omega), decide_eq_true (by omega), cond_true]
  | succ c ih =>
    intro f i m h fl a u H R r h1 h2 h3 h4 h5
    obtain ⟨g, rfl⟩ : ∃ g, f = g + 1 := ⟨f - 1, by omega⟩
    have g2 : fAI h 233 100 (Int32.ofInt 2) = some (Int32.ofInt (a 233 2)) := zr_w H 2 (by decide)
    have e := zr_great4 (N := N) hN H R ok h3 now.2.2.length N 0 none (Nat.zero_add _) (by omega) (fun j hj => by cases hj)
    have e : fM_greatestBeside_4 N N 232 (Int32.ofInt (m : Int)) (Int32.ofInt (-1)) (Int32.ofInt 0) h = _ := e
    rw [fM_joins_9, zr_r0 H, b1_s, g2, b1_s, R.1.2.2.2.1, zqo_ge _ _ (by omega) (by omega), decide_eq_false (by omega), cond_false]
    unfold fM_greatestBeside
    rw [zr_T H, cond_true, e, b2, zs_jn]
    cases hg : zs_g (fun j => now.2.2.getD j []) m now.2.2.length 0 none with
    | none =>
      have := (zs_none _ _ _ hg).2
      omega
    | some j =>
      obtain ⟨j1, j2⟩ := zs_gb _ m now.2.2.length 0 none (fun k hk => by cases hk) j hg
      have j1 : j < now.2.2.length := by omega
      have u1 := zs_us1 (fun _ => [0]) m j h3 j2 now.2.2.length 0 (by omega) (Nat.zero_le _) (by omega)
      have u2 := zs_us1 (fun j => now.2.2.getD j []) m j h3 j2 now.2.2.length 0 (by omega) (Nat.zero_le _) (by omega)
      have u1 : zs_us (fun _ => [0]) (m ||| (1 <<< j)) now.2.2.length 0 + 1 = _ := u1
      have u2 : zs_us (fun j => now.2.2.getD j []) (m ||| (1 <<< j)) now.2.2.length 0 + (now.2.2.getD j []).length = _ := u2
      have wj := ok.2.2.2.2 _ (zv_kmem j1)
      obtain ⟨h6, f6, a6, e6, H6, F6, Q6, r6⟩ := zr_joins34 (N := N) ok j1 (x := Int32.ofInt ((m ||| (1 <<< j) : Nat) : Int)) (y := Int32.ofInt (i : Int)) (k9 := fM_joins_9 N g) (now.2.2.getD j []).length N 0 h fl a u H R.1 r (Nat.zero_add _) (by omega) (by omega)
      rw [List.drop_zero] at r6
      obtain ⟨h7, f7, a7, z, e7, H7, F7, Q7, z7, r7, l7⟩ := ih g (i + 1) (m ||| (1 <<< j)) h6 f6 a6 _ H6 (zyR_Q R Q6) r6 (by omega) (by omega) (zs_orb m j 0 h3 (by omega) (by decide)).1 (by omega) (by rw [List.length_append]; omega)
      refine ⟨h7, f7, a7, z, ?_, H7, zr_Ft F6 F7, zr_Qt Q6 Q7, z7, r7, l7⟩
      rw [show zs_gi (some j) = (j : Int) from rfl, zs_or m j h3 (by omega)]
      have e6 : fM_joins_34 N N (fM_joins_9 N g) 232 (Int32.ofInt ((m ||| (1 <<< j) : Nat) : Int)) (Int32.ofInt (i : Int)) (Int32.ofInt (j : Int)) (Int32.ofInt 0) h = _ := e6
      rw [e6, zh_inc]
      exact e7
theorem zs_usS {l : List (List Nat)} : ∀ (c i : Nat), i + c = l.length → zs_us (fun j => l.getD j []) 0 c i = ((l.drop i).map List.length).sum := by
  intro c
  induction c with
  | zero =>
    intro i h
    rw [List.drop_eq_nil_of_le (by omega)]
    rfl
  | succ c ih =>
    intro i h
    have hi : i < l.length := by omega
    rw [zs_us, if_neg (by rw [Nat.zero_testBit]; decide), ih (i + 1) (by omega), List.drop_eq_getElem_cons hi, List.map_cons, List.sum_cons]
    show (l.getD i []).length + _ = _
    rw [List.getD_eq_getElem?_getD, List.getElem?_eq_getElem hi]
    rfl
theorem zn_joinKept (Y : zy h now hist snap sv inp rep t) (o : zo now hist snap) (hN : 4000 ≤ N) : (¬ (0 < now.2.2.length ∧ (now.2.2.map List.length).sum ≤ 120) ∧ ∃ h', fM_joinKept N 232 h = some (Int32.ofInt 0, h') ∧ zy h' now hist snap sv inp rep 1 ∧ zr_F h h') ∨ ((0 < now.2.2.length ∧ (now.2.2.map List.length).sum ≤ 120) ∧ ∃ h', fM_joinKept N 232 h = some (Int32.ofInt ((zv_jn now.2.2).length : Int), h') ∧ zy h' (now.1, zv_jn now.2.2, now.2.2) (zv_push hist now) snap sv inp rep 0 ∧ zr_F h h') := by
  obtain ⟨ok, okh, h8, oks⟩ := o
  have o4 := ok.2.2.2.1
  obtain ⟨fl0, a0, H0, R0⟩ := id Y
  unfold fM_joinKept
  rw [zr_T H0, cond_true, zr_canJoin (by omega) H0 R0 ok, b2]
  by_cases e : 0 < now.2.2.length ∧ (now.2.2.map List.length).sum ≤ 120
  · rw [decide_eq_true e, cond_true]
    refine Or.inr ⟨e, ?_⟩
    obtain ⟨h1, e1, Y1, F1⟩ := zy_one0 (N := N) Y
    obtain ⟨h2, e2, ⟨fl, a, H, R, B⟩, F2⟩ := zy_begins (N := N) (by omega) Y1 ok
    obtain ⟨h3, e3, H3, F3⟩ := zr_s H 14 rfl 0
    have Q3 : zr_Q fl a (zr_u fl 14 0) a := ⟨fun k hk => if_neg hk, fun _ _ _ _ => rfl⟩
    have us := zs_usS (l := now.2.2) now.2.2.length 0 (Nat.zero_add _)
    rw [List.drop_zero] at us
    obtain ⟨h4, f4, a4, z, e4, H4, F4, Q4, z4, r4, l4⟩ := zr_joins9 (N := N) (by omega) ok now.2.2.length N 0 0 h3 _ a [] H3 (zyR_Q R Q3) ⟨rfl, fun i hi => by cases hi⟩ (Nat.zero_add _) (by omega) (by decide) (zs_one0 _ _) (by rw [us]; show 0 + _ ≤ 120; omega)
    have z4 : z = zv_jn now.2.2 := z4
    subst z4
    have Q := zr_Qt Q3 Q4
    obtain ⟨h5, a5, e5, H5, F5, p5, t5⟩ := zr_takes (N := N) (by omega) H4 r4 l4
    have R4 := zyR_Q R Q
    have n5 : zy_is (a5 233) (now.1, zv_jn now.2.2, now.2.2) := zy_isT R4.1 t5.1 t5.2 (fun j h3 h4 => p5 233 j (Or.inr ⟨h3, h4⟩))
    have Y5 : zyp h5 now (now.1, zv_jn now.2.2, now.2.2) hist snap sv inp rep 0 := by
      refine ⟨f4, a5, H5, zyR_a R4 (fun _ _ => rfl) (fun p i hp => p5 p i (Or.inl (by omega))) n5, ?_⟩
      rw [show a5 234 = a 234 from funext fun i => (p5 234 i (Or.inl (by decide))).trans (Q.2 234 i (by decide) (by decide))]
      exact B
    obtain ⟨h6, e6, Y6, F6⟩ := zy_remember (N := N) hN Y5 ok okh h8 (Int32.ofInt ((zv_jn now.2.2).length : Int))
    refine ⟨h6, ?_, Y6, zr_Ft F1 (zr_Ft F2 (zr_Ft F3 (zr_Ft F4 (zr_Ft F5 F6))))⟩
    show fM_joinKept_13 N 232 (Int32.ofInt 0) 232 h = _
    unfold fM_joinKept_13
    rw [e1, b2]
    show b2 (fM_begins N 232 h1) _ = _
    have e4 : fM_joins_9 N N 232 (Int32.ofInt 0) (Int32.ofInt 0) h3 = _ := e4
    rw [e2, b2]
    unfold fM_joins
    rw [zr_T H, cond_true, e3, b1_s, e4, e5, b2, b2, e6]
    rfl
  · rw [decide_eq_false e, cond_false]
    refine Or.inl ⟨e, ?_⟩
    obtain ⟨h1, e1, Y1, F1⟩ := zy_one1 (N := N) Y
    refine ⟨h1, ?_, Y1, F1⟩
    show fM_joinKept_13 N 232 (Int32.ofInt 1) 232 h = _
    unfold fM_joinKept_13
    rw [e1]
    rfl
end ZYO
