/-! THE LAW'S LOOP. -/
def yI (k23 : Nat → Nat → Nat → Int32 → zH → Option (Int32 × zH)) (i : Nat) (e : Option (Int32 × zH)) : Prop := ∃ h' c', e = k23 0 232 243 (Int32.ofInt (i : Int) + Int32.ofInt 6) h' ∧ yA h' c'
def yI_all {α : Type} (P : α → Prop) : List α → Prop
  | [] => True
  | a :: l => P a ∧ yI_all P l
theorem yI_nth {α : Type} {P : α → Prop} {d : α} : ∀ (l : List α) (n : Nat), yI_all P l → n < l.length → P (z_nth l n d) := by
  intro l
  induction l with
  | nil => intro n _ h; exact absurd h (Nat.not_lt_zero n)
  | cons a l ih =>
    intro n p h
    cases n with
    | zero => exact p.1
    | succ n => exact ih n p.2 (Nat.lt_of_succ_lt_succ h)
theorem yI_scr {xs : List Int32} {i : Nat} (j : Nat) (hi : i + j < xs.length) (hx : xs.length ≤ 3072) : ∃ a : Int, (-2147483648 ≤ a ∧ a < 2147483648) ∧ fScr xs (Int32.ofInt (i : Int) + Int32.ofInt (j : Int)) = some (Int32.ofInt a) := by
  refine ⟨(xs[i + j]).toInt, ?_, ?_⟩
  · have h1 := Int32.le_toInt (xs[i + j])
    have h2 := Int32.toInt_lt (xs[i + j])
    omega
  · have e : Int32.ofInt (i : Int) + Int32.ofInt (j : Int) = Int32.ofInt ((i + j : Nat) : Int) := by
      rw [zw_add]
      rfl
    unfold fScr
    rw [e, decide_eq_false (zh_nat (by omega)).1, cond_false, (zh_nat (by omega)).2, List.getElem?_eq_getElem hi, Int32.ofInt_toInt]
theorem yI_eq (y : Int32) : z_cmp .eq y y = true := decide_eq_true rfl
theorem yI_share {L : Nat} (hL : 2 ≤ L ∧ L ≤ 9) : FP.f2d (yd_share L) &&& 0x7fffffffffffffff ≤ 0x7ff0000000000000 := by
  have h := List.all_eq_true.mp (show ((List.range 10).all fun L => L == 0 || L == 1 || decide (FP.f2d (yd_share L) &&& 0x7fffffffffffffff ≤ 0x7ff0000000000000)) = true by decide +kernel) L (List.mem_range.mpr (by omega))
  rw [Bool.or_eq_true, Bool.or_eq_true, beq_iff_eq, beq_iff_eq, decide_eq_true_eq] at h
  rcases h with h | h
  · omega
  · exact h
theorem yI_ne {a b : Int32} (e : z_cmp .eq a b = false) : z_cmp .ne a b = true := by
  show (!decide (a = b)) = true
  rw [show decide (a = b) = false from e]
  rfl
section YIA
variable {xs : List Int32} {N i : Nat} {h : zH} {c : Int} {k23 : Nat → Nat → Nat → Int32 → zH → Option (Int32 × zH)}
theorem yI_292 (J : yA h c) (hi : i + 6 ≤ xs.length) (hx : xs.length ≤ 3072) (hN : 1000001 ≤ N) : yI k23 i (fL_law_292 xs N k23 0 232 243 (Int32.ofInt (i : Int)) h) := by
  obtain ⟨a1, r1, s1⟩ := yI_scr 1 (show i + 1 < xs.length by omega) hx
  have s1 : fScr xs (Int32.ofInt (i : Int) + Int32.ofInt 1) = some (Int32.ofInt a1) := s1
  obtain ⟨a2, r2, s2⟩ := yI_scr 2 (show i + 2 < xs.length by omega) hx
  have s2 : fScr xs (Int32.ofInt (i : Int) + Int32.ofInt 2) = some (Int32.ofInt a2) := s2
  obtain ⟨a3, r3, s3⟩ := yI_scr 3 (show i + 3 < xs.length by omega) hx
  have s3 : fScr xs (Int32.ofInt (i : Int) + Int32.ofInt 3) = some (Int32.ofInt a3) := s3
  obtain ⟨a4, r4, s4⟩ := yI_scr 4 (show i + 4 < xs.length by omega) hx
  have s4 : fScr xs (Int32.ofInt (i : Int) + Int32.ofInt 4) = some (Int32.ofInt a4) := s4
  obtain ⟨a5, r5, s5⟩ := yI_scr 5 (show i + 5 < xs.length by omega) hx
  have s5 : fScr xs (Int32.ofInt (i : Int) + Int32.ofInt 5) = some (Int32.ofInt a5) := s5
  obtain ⟨y, h1, h2, e1, e2, J2⟩ := yA_append (N := N) J hN (Int32.ofInt a1) (Int32.ofInt a2) (Int32.ofInt a3) (Int32.ofInt a4) (Int32.ofInt a5)
  refine ⟨h2, 0, ?_, J2⟩
  unfold fL_law_292 fL_law_1563
  rw [s1, b1_s, s2, b1_s, s3, b1_s, s4, b1_s, s5, b1_s, e1, b2, b1_s, b1_s, b1_s, b1_s, b1_s, e2, b2]
theorem yI_365 (J : yA h c) (hi : i + 6 ≤ xs.length) (hx : xs.length ≤ 3072) (hN : 1000001 ≤ N) : yI k23 i (fL_law_365 xs N k23 0 232 243 (Int32.ofInt (i : Int)) h) := by
  obtain ⟨a1, r1, s1⟩ := yI_scr 1 (show i + 1 < xs.length by omega) hx
  have s1 : fScr xs (Int32.ofInt (i : Int) + Int32.ofInt 1) = some (Int32.ofInt a1) := s1
  obtain ⟨c', y, h1, h2, e1, e2, J2, o2, o3, o4⟩ := yA_truncateInput (N := N) J hN a1 r1
  refine ⟨h2, c', ?_, J2⟩
  unfold fL_law_365 fL_law_1563
  rw [s1, b1_s, e1, b2, b1_s, e2, b2]
theorem yI_393 (J : yA h c) (hi : i + 6 ≤ xs.length) (hx : xs.length ≤ 3072) (hN : 1000001 ≤ N) : yI k23 i (fL_law_393 xs N k23 0 232 243 (Int32.ofInt (i : Int)) h) := by
  obtain ⟨y, h1, h2, e1, e2, J2⟩ := yA_runScript (N := N) J hN
  refine ⟨h2, 0, ?_, J2⟩
  unfold fL_law_393 fL_law_1563
  rw [e1, b2, e2, b2]
theorem yI_406 (J : yA h c) (hi : i + 6 ≤ xs.length) (hx : xs.length ≤ 3072) (hN : 1000001 ≤ N) : yI k23 i (fL_law_406 xs N k23 0 232 243 (Int32.ofInt (i : Int)) h) := by
  obtain ⟨a1, r1, s1⟩ := yI_scr 1 (show i + 1 < xs.length by omega) hx
  have s1 : fScr xs (Int32.ofInt (i : Int) + Int32.ofInt 1) = some (Int32.ofInt a1) := s1
  obtain ⟨c', y, h1, h2, e1, e2, J2, o2, o3, o4⟩ := yA_setLetters (N := N) J hN a1 r1
  refine ⟨h2, c', ?_, J2⟩
  unfold fL_law_406 fL_law_1563
  rw [s1, b1_s, e1, b2, b1_s, e2, b2]
theorem yI_434 (J : yA h c) (hi : i + 6 ≤ xs.length) (hx : xs.length ≤ 3072) (hN : 1000001 ≤ N) : yI k23 i (fL_law_434 xs N k23 0 232 243 (Int32.ofInt (i : Int)) h) := by
  obtain ⟨c', y, h1, h2, e1, e2, J2, o2, o3, o4⟩ := yA_readText (N := N) J hN
  refine ⟨h2, c', ?_, J2⟩
  unfold fL_law_434 fL_law_1563
  rw [e1, b2, e2, b2]
theorem yI_450 (J : yA h c) (hi : i + 6 ≤ xs.length) (hx : xs.length ≤ 3072) (hN : 1000001 ≤ N) : yI k23 i (fL_law_450 xs N k23 0 232 243 (Int32.ofInt (i : Int)) h) := by
  obtain ⟨a1, r1, s1⟩ := yI_scr 1 (show i + 1 < xs.length by omega) hx
  have s1 : fScr xs (Int32.ofInt (i : Int) + Int32.ofInt 1) = some (Int32.ofInt a1) := s1
  obtain ⟨c', y, h1, h2, e1, e2, J2, o2, o3, o4⟩ := yA_appendLetter (N := N) J hN a1 r1
  refine ⟨h2, c', ?_, J2⟩
  unfold fL_law_450 fL_law_1563
  rw [s1, b1_s, e1, b2, b1_s, e2, b2]
theorem yI_478 (J : yA h c) (hi : i + 6 ≤ xs.length) (hx : xs.length ≤ 3072) (hN : 1000001 ≤ N) : yI k23 i (fL_law_478 xs N k23 0 232 243 (Int32.ofInt (i : Int)) h) := by
  obtain ⟨a1, r1, s1⟩ := yI_scr 1 (show i + 1 < xs.length by omega) hx
  have s1 : fScr xs (Int32.ofInt (i : Int) + Int32.ofInt 1) = some (Int32.ofInt a1) := s1
  obtain ⟨c', y, h1, h2, e1, e2, J2, o2, o3, o4⟩ := yA_dropLast (N := N) J hN a1 r1
  refine ⟨h2, c', ?_, J2⟩
  unfold fL_law_478 fL_law_1563
  rw [s1, b1_s, e1, b2, b1_s, e2, b2]
theorem yI_506 (J : yA h c) (hi : i + 6 ≤ xs.length) (hx : xs.length ≤ 3072) (hN : 1000001 ≤ N) : yI k23 i (fL_law_506 xs N k23 0 232 243 (Int32.ofInt (i : Int)) h) := by
  obtain ⟨a1, r1, s1⟩ := yI_scr 1 (show i + 1 < xs.length by omega) hx
  have s1 : fScr xs (Int32.ofInt (i : Int) + Int32.ofInt 1) = some (Int32.ofInt a1) := s1
  obtain ⟨a2, r2, s2⟩ := yI_scr 2 (show i + 2 < xs.length by omega) hx
  have s2 : fScr xs (Int32.ofInt (i : Int) + Int32.ofInt 2) = some (Int32.ofInt a2) := s2
  obtain ⟨c', y, h1, h2, e1, e2, J2, o2, o3, o4⟩ := yA_cutPart (N := N) J hN a1 r1 a2 r2
  refine ⟨h2, c', ?_, J2⟩
  unfold fL_law_506 fL_law_1563
  rw [s1, b1_s, s2, b1_s, e1, b2, b1_s, b1_s, e2, b2]
theorem yI_546 (J : yA h c) (hi : i + 6 ≤ xs.length) (hx : xs.length ≤ 3072) (hN : 1000001 ≤ N) : yI k23 i (fL_law_546 xs N k23 0 232 243 (Int32.ofInt (i : Int)) h) := by
  obtain ⟨a1, r1, s1⟩ := yI_scr 1 (show i + 1 < xs.length by omega) hx
  have s1 : fScr xs (Int32.ofInt (i : Int) + Int32.ofInt 1) = some (Int32.ofInt a1) := s1
  obtain ⟨c', y, h1, h2, e1, e2, J2, o2, o3, o4⟩ := yA_rotate (N := N) J hN a1 r1
  refine ⟨h2, c', ?_, J2⟩
  unfold fL_law_546 fL_law_1563
  rw [s1, b1_s, e1, b2, b1_s, e2, b2]
theorem yI_574 (J : yA h c) (hi : i + 6 ≤ xs.length) (hx : xs.length ≤ 3072) (hN : 1000001 ≤ N) : yI k23 i (fL_law_574 xs N k23 0 232 243 (Int32.ofInt (i : Int)) h) := by
  obtain ⟨y, h1, h2, e1, e2, J2⟩ := yA_reverse (N := N) J hN
  refine ⟨h2, 0, ?_, J2⟩
  unfold fL_law_574 fL_law_1563
  rw [e1, b2, e2, b2]
theorem yI_587 (J : yA h c) (hi : i + 6 ≤ xs.length) (hx : xs.length ≤ 3072) (hN : 1000001 ≤ N) : yI k23 i (fL_law_587 xs N k23 0 232 243 (Int32.ofInt (i : Int)) h) := by
  obtain ⟨c', y, h1, h2, e1, e2, J2, o2, o3, o4⟩ := yA_rotateToLeast (N := N) J hN
  refine ⟨h2, c', ?_, J2⟩
  unfold fL_law_587 fL_law_1563
  rw [e1, b2, e2, b2]
theorem yI_603 (J : yA h c) (hi : i + 6 ≤ xs.length) (hx : xs.length ≤ 3072) (hN : 1000001 ≤ N) : yI k23 i (fL_law_603 xs N k23 0 232 243 (Int32.ofInt (i : Int)) h) := by
  obtain ⟨a1, r1, s1⟩ := yI_scr 1 (show i + 1 < xs.length by omega) hx
  have s1 : fScr xs (Int32.ofInt (i : Int) + Int32.ofInt 1) = some (Int32.ofInt a1) := s1
  obtain ⟨c', y, h1, h2, e1, e2, J2, o2, o3, o4⟩ := yA_nextLyndon (N := N) J hN a1 r1
  refine ⟨h2, c', ?_, J2⟩
  unfold fL_law_603 fL_law_1563
  rw [s1, b1_s, e1, b2, b1_s, e2, b2]
theorem yI_631 (J : yA h c) (hi : i + 6 ≤ xs.length) (hx : xs.length ≤ 3072) (hN : 1000001 ≤ N) : yI k23 i (fL_law_631 xs N k23 0 232 243 (Int32.ofInt (i : Int)) h) := by
  obtain ⟨a1, r1, s1⟩ := yI_scr 1 (show i + 1 < xs.length by omega) hx
  have s1 : fScr xs (Int32.ofInt (i : Int) + Int32.ofInt 1) = some (Int32.ofInt a1) := s1
  obtain ⟨c', y, h1, h2, e1, e2, J2, o2, o3, o4⟩ := yA_keepFactor (N := N) J hN a1 r1
  refine ⟨h2, c', ?_, J2⟩
  unfold fL_law_631 fL_law_1563
  rw [s1, b1_s, e1, b2, b1_s, e2, b2]
theorem yI_659 (J : yA h c) (hi : i + 6 ≤ xs.length) (hx : xs.length ≤ 3072) (hN : 1000001 ≤ N) : yI k23 i (fL_law_659 xs N k23 0 232 243 (Int32.ofInt (i : Int)) h) := by
  obtain ⟨c', y, h1, h2, e1, e2, J2, o2, o3, o4⟩ := yA_keepText (N := N) J hN
  refine ⟨h2, c', ?_, J2⟩
  unfold fL_law_659 fL_law_1563
  rw [e1, b2, e2, b2]
theorem yI_675 (J : yA h c) (hi : i + 6 ≤ xs.length) (hx : xs.length ≤ 3072) (hN : 1000001 ≤ N) : yI k23 i (fL_law_675 xs N k23 0 232 243 (Int32.ofInt (i : Int)) h) := by
  obtain ⟨a1, r1, s1⟩ := yI_scr 1 (show i + 1 < xs.length by omega) hx
  have s1 : fScr xs (Int32.ofInt (i : Int) + Int32.ofInt 1) = some (Int32.ofInt a1) := s1
  obtain ⟨c', y, h1, h2, e1, e2, J2, o2, o3, o4⟩ := yA_removeKept (N := N) J hN a1 r1
  refine ⟨h2, c', ?_, J2⟩
  unfold fL_law_675 fL_law_1563
  rw [s1, b1_s, e1, b2, b1_s, e2, b2]
theorem yI_703 (J : yA h c) (hi : i + 6 ≤ xs.length) (hx : xs.length ≤ 3072) (hN : 1000001 ≤ N) : yI k23 i (fL_law_703 xs N k23 0 232 243 (Int32.ofInt (i : Int)) h) := by
  obtain ⟨c', y, h1, h2, e1, e2, J2, o2, o3, o4⟩ := yA_joinKept (N := N) J hN
  refine ⟨h2, c', ?_, J2⟩
  unfold fL_law_703 fL_law_1563
  rw [e1, b2, e2, b2]
theorem yI_719 (J : yA h c) (hi : i + 6 ≤ xs.length) (hx : xs.length ≤ 3072) (hN : 1000001 ≤ N) : yI k23 i (fL_law_719 xs N k23 0 232 243 (Int32.ofInt (i : Int)) h) := by
  obtain ⟨y, h1, h2, e1, e2, J2⟩ := yA_undo (N := N) J hN
  refine ⟨h2, 0, ?_, J2⟩
  unfold fL_law_719 fL_law_1563
  rw [e1, b2, e2, b2]
theorem yI_732 (J : yA h c) (hi : i + 6 ≤ xs.length) (hx : xs.length ≤ 3072) (hN : 1000001 ≤ N) : yI k23 i (fL_law_732 xs N k23 0 232 243 (Int32.ofInt (i : Int)) h) := by
  obtain ⟨y, h1, h2, e1, e2, J2⟩ := yA_undoCount (N := N) J hN
  refine ⟨h2, 0, ?_, J2⟩
  unfold fL_law_732 fL_law_1563
  rw [e1, b2, e2, b2]
theorem yI_745 (J : yA h c) (hi : i + 6 ≤ xs.length) (hx : xs.length ≤ 3072) (hN : 1000001 ≤ N) : yI k23 i (fL_law_745 xs N k23 0 232 243 (Int32.ofInt (i : Int)) h) := by
  obtain ⟨y, h1, h2, e1, e2, J2⟩ := yA_saveSnapshot (N := N) J hN
  refine ⟨h2, 0, ?_, J2⟩
  unfold fL_law_745 fL_law_1563
  rw [e1, b2, e2, b2]
theorem yI_758 (J : yA h c) (hi : i + 6 ≤ xs.length) (hx : xs.length ≤ 3072) (hN : 1000001 ≤ N) : yI k23 i (fL_law_758 xs N k23 0 232 243 (Int32.ofInt (i : Int)) h) := by
  obtain ⟨c', y, h1, h2, e1, e2, J2, o2, o3, o4⟩ := yA_restoreSnapshot (N := N) J hN
  refine ⟨h2, c', ?_, J2⟩
  unfold fL_law_758 fL_law_1563
  rw [e1, b2, e2, b2]
theorem yI_774 (J : yA h c) (hi : i + 6 ≤ xs.length) (hx : xs.length ≤ 3072) (hN : 1000001 ≤ N) : yI k23 i (fL_law_774 xs N k23 0 232 243 (Int32.ofInt (i : Int)) h) := by
  obtain ⟨y, z, h1, h2, e1, e2, J2⟩ := yA_scriptErrorKind (N := N) J hN
  refine ⟨h2, 0, ?_, J2⟩
  unfold fL_law_774 fL_law_1563
  rw [e1, b2, e2, b2]
theorem yI_787 (J : yA h c) (hi : i + 6 ≤ xs.length) (hx : xs.length ≤ 3072) (hN : 1000001 ≤ N) : yI k23 i (fL_law_787 xs N k23 0 232 243 (Int32.ofInt (i : Int)) h) := by
  obtain ⟨y, z, h1, h2, e1, e2, J2⟩ := yA_scriptErrorOffset (N := N) J hN
  refine ⟨h2, 0, ?_, J2⟩
  unfold fL_law_787 fL_law_1563
  rw [e1, b2, e2, b2]
theorem yI_800 (J : yA h c) (hi : i + 6 ≤ xs.length) (hx : xs.length ≤ 3072) (hN : 1000001 ≤ N) : yI k23 i (fL_law_800 xs N k23 0 232 243 (Int32.ofInt (i : Int)) h) := by
  obtain ⟨y, h1, h2, e1, e2, J2⟩ := yA_letters (N := N) J hN
  refine ⟨h2, 0, ?_, J2⟩
  unfold fL_law_800 fL_law_1563
  rw [e1, b2, e2, b2]
theorem yI_813 (J : yA h c) (hi : i + 6 ≤ xs.length) (hx : xs.length ≤ 3072) (hN : 1000001 ≤ N) : yI k23 i (fL_law_813 xs N k23 0 232 243 (Int32.ofInt (i : Int)) h) := by
  obtain ⟨y, h1, h2, e1, e2, J2⟩ := yA_length (N := N) J hN
  refine ⟨h2, 0, ?_, J2⟩
  unfold fL_law_813 fL_law_1563
  rw [e1, b2, e2, b2]
theorem yI_826 (J : yA h c) (hi : i + 6 ≤ xs.length) (hx : xs.length ≤ 3072) (hN : 1000001 ≤ N) : yI k23 i (fL_law_826 xs N k23 0 232 243 (Int32.ofInt (i : Int)) h) := by
  obtain ⟨a1, r1, s1⟩ := yI_scr 1 (show i + 1 < xs.length by omega) hx
  have s1 : fScr xs (Int32.ofInt (i : Int) + Int32.ofInt 1) = some (Int32.ofInt a1) := s1
  obtain ⟨y, h1, h2, e1, e2, J2⟩ := yA_letterAt (N := N) J hN a1 r1
  refine ⟨h2, 0, ?_, J2⟩
  unfold fL_law_826 fL_law_1563
  rw [s1, b1_s, e1, b2, b1_s, e2, b2]
theorem yI_851 (J : yA h c) (hi : i + 6 ≤ xs.length) (hx : xs.length ≤ 3072) (hN : 1000001 ≤ N) : yI k23 i (fL_law_851 xs N k23 0 232 243 (Int32.ofInt (i : Int)) h) := by
  obtain ⟨a1, r1, s1⟩ := yI_scr 1 (show i + 1 < xs.length by omega) hx
  have s1 : fScr xs (Int32.ofInt (i : Int) + Int32.ofInt 1) = some (Int32.ofInt a1) := s1
  obtain ⟨a2, r2, s2⟩ := yI_scr 2 (show i + 2 < xs.length by omega) hx
  have s2 : fScr xs (Int32.ofInt (i : Int) + Int32.ofInt 2) = some (Int32.ofInt a2) := s2
  obtain ⟨a3, r3, s3⟩ := yI_scr 3 (show i + 3 < xs.length by omega) hx
  have s3 : fScr xs (Int32.ofInt (i : Int) + Int32.ofInt 3) = some (Int32.ofInt a3) := s3
  obtain ⟨a4, r4, s4⟩ := yI_scr 4 (show i + 4 < xs.length by omega) hx
  have s4 : fScr xs (Int32.ofInt (i : Int) + Int32.ofInt 4) = some (Int32.ofInt a4) := s4
  obtain ⟨c', y, h1, h2, e1, e2, J2, o2, o3, o4⟩ := yA_compareParts (N := N) J hN a1 r1 a2 r2 a3 r3 a4 r4
  refine ⟨h2, c', ?_, J2⟩
  unfold fL_law_851 fL_law_1563
  rw [s1, b1_s, s2, b1_s, s3, b1_s, s4, b1_s, e1, b2, b1_s, b1_s, b1_s, b1_s, e2, b2]
theorem yI_915 (J : yA h c) (hi : i + 6 ≤ xs.length) (hx : xs.length ≤ 3072) (hN : 1000001 ≤ N) : yI k23 i (fL_law_915 xs N k23 0 232 243 (Int32.ofInt (i : Int)) h) := by
  obtain ⟨y, h1, h2, e1, e2, J2⟩ := yA_factorCount (N := N) J hN
  refine ⟨h2, 0, ?_, J2⟩
  unfold fL_law_915 fL_law_1563
  rw [e1, b2, e2, b2]
theorem yI_928 (J : yA h c) (hi : i + 6 ≤ xs.length) (hx : xs.length ≤ 3072) (hN : 1000001 ≤ N) : yI k23 i (fL_law_928 xs N k23 0 232 243 (Int32.ofInt (i : Int)) h) := by
  obtain ⟨a1, r1, s1⟩ := yI_scr 1 (show i + 1 < xs.length by omega) hx
  have s1 : fScr xs (Int32.ofInt (i : Int) + Int32.ofInt 1) = some (Int32.ofInt a1) := s1
  obtain ⟨c', y, h1, h2, e1, e2, J2, o2, o3, o4⟩ := yA_factorStart (N := N) J hN a1 r1
  refine ⟨h2, c', ?_, J2⟩
  unfold fL_law_928 fL_law_1563
  rw [s1, b1_s, e1, b2, b1_s, e2, b2]
theorem yI_956 (J : yA h c) (hi : i + 6 ≤ xs.length) (hx : xs.length ≤ 3072) (hN : 1000001 ≤ N) : yI k23 i (fL_law_956 xs N k23 0 232 243 (Int32.ofInt (i : Int)) h) := by
  obtain ⟨a1, r1, s1⟩ := yI_scr 1 (show i + 1 < xs.length by omega) hx
  have s1 : fScr xs (Int32.ofInt (i : Int) + Int32.ofInt 1) = some (Int32.ofInt a1) := s1
  obtain ⟨c', y, h1, h2, e1, e2, J2, o2, o3, o4⟩ := yA_factorLength (N := N) J hN a1 r1
  refine ⟨h2, c', ?_, J2⟩
  unfold fL_law_956 fL_law_1563
  rw [s1, b1_s, e1, b2, b1_s, e2, b2]
theorem yI_984 (J : yA h c) (hi : i + 6 ≤ xs.length) (hx : xs.length ≤ 3072) (hN : 1000001 ≤ N) : yI k23 i (fL_law_984 xs N k23 0 232 243 (Int32.ofInt (i : Int)) h) := by
  obtain ⟨a1, r1, s1⟩ := yI_scr 1 (show i + 1 < xs.length by omega) hx
  have s1 : fScr xs (Int32.ofInt (i : Int) + Int32.ofInt 1) = some (Int32.ofInt a1) := s1
  obtain ⟨c', y, h1, h2, e1, e2, J2, o2, o3, o4⟩ := yA_factorPower (N := N) J hN a1 r1
  refine ⟨h2, c', ?_, J2⟩
  unfold fL_law_984 fL_law_1563
  rw [s1, b1_s, e1, b2, b1_s, e2, b2]
theorem yI_1012 (J : yA h c) (hi : i + 6 ≤ xs.length) (hx : xs.length ≤ 3072) (hN : 1000001 ≤ N) : yI k23 i (fL_law_1012 xs N k23 0 232 243 (Int32.ofInt (i : Int)) h) := by
  obtain ⟨a1, r1, s1⟩ := yI_scr 1 (show i + 1 < xs.length by omega) hx
  have s1 : fScr xs (Int32.ofInt (i : Int) + Int32.ofInt 1) = some (Int32.ofInt a1) := s1
  obtain ⟨y, h1, h2, e1, e2, J2⟩ := yA_factorOf (N := N) J hN a1 r1
  refine ⟨h2, 0, ?_, J2⟩
  unfold fL_law_1012 fL_law_1563
  rw [s1, b1_s, e1, b2, b1_s, e2, b2]
theorem yI_1037 (J : yA h c) (hi : i + 6 ≤ xs.length) (hx : xs.length ≤ 3072) (hN : 1000001 ≤ N) : yI k23 i (fL_law_1037 xs N k23 0 232 243 (Int32.ofInt (i : Int)) h) := by
  obtain ⟨y, h1, h2, e1, e2, J2⟩ := yA_longestFactor (N := N) J hN
  refine ⟨h2, 0, ?_, J2⟩
  unfold fL_law_1037 fL_law_1563
  rw [e1, b2, e2, b2]
theorem yI_1050 (J : yA h c) (hi : i + 6 ≤ xs.length) (hx : xs.length ≤ 3072) (hN : 1000001 ≤ N) : yI k23 i (fL_law_1050 xs N k23 0 232 243 (Int32.ofInt (i : Int)) h) := by
  obtain ⟨a1, r1, s1⟩ := yI_scr 1 (show i + 1 < xs.length by omega) hx
  have s1 : fScr xs (Int32.ofInt (i : Int) + Int32.ofInt 1) = some (Int32.ofInt a1) := s1
  obtain ⟨c', y, h1, h2, e1, e2, J2, o2, o3, o4⟩ := yA_factorsIfAppended (N := N) J hN a1 r1
  refine ⟨h2, c', ?_, J2⟩
  unfold fL_law_1050 fL_law_1563
  rw [s1, b1_s, e1, b2, b1_s, e2, b2]
theorem yI_1078 (J : yA h c) (hi : i + 6 ≤ xs.length) (hx : xs.length ≤ 3072) (hN : 1000001 ≤ N) : yI k23 i (fL_law_1078 xs N k23 0 232 243 (Int32.ofInt (i : Int)) h) := by
  obtain ⟨a1, r1, s1⟩ := yI_scr 1 (show i + 1 < xs.length by omega) hx
  have s1 : fScr xs (Int32.ofInt (i : Int) + Int32.ofInt 1) = some (Int32.ofInt a1) := s1
  obtain ⟨c', y, h1, h2, e1, e2, J2, o2, o3, o4⟩ := yA_factorsIfRotated (N := N) J hN a1 r1
  refine ⟨h2, c', ?_, J2⟩
  unfold fL_law_1078 fL_law_1563
  rw [s1, b1_s, e1, b2, b1_s, e2, b2]
theorem yI_1106 (J : yA h c) (hi : i + 6 ≤ xs.length) (hx : xs.length ≤ 3072) (hN : 1000001 ≤ N) : yI k23 i (fL_law_1106 xs N k23 0 232 243 (Int32.ofInt (i : Int)) h) := by
  obtain ⟨a1, r1, s1⟩ := yI_scr 1 (show i + 1 < xs.length by omega) hx
  have s1 : fScr xs (Int32.ofInt (i : Int) + Int32.ofInt 1) = some (Int32.ofInt a1) := s1
  obtain ⟨x, y, c', h1, h2, e1, e2, J2⟩ := yA_rankOf (N := N) J hN a1 r1
  refine ⟨h2, c', ?_, J2⟩
  unfold fL_law_1106 fL_law_1563
  rw [s1, b1_s, e1, b2, b1_s, e2, b2]
theorem yI_1134 (J : yA h c) (hi : i + 6 ≤ xs.length) (hx : xs.length ≤ 3072) (hN : 1000001 ≤ N) : yI k23 i (fL_law_1134 xs N k23 0 232 243 (Int32.ofInt (i : Int)) h) := by
  obtain ⟨y, h1, h2, e1, e2, J2⟩ := yA_isLyndon (N := N) J hN
  refine ⟨h2, 0, ?_, J2⟩
  unfold fL_law_1134 fL_law_1563
  rw [e1, b2, e2, b2]
theorem yI_1147 (J : yA h c) (hi : i + 6 ≤ xs.length) (hx : xs.length ≤ 3072) (hN : 1000001 ≤ N) : yI k23 i (fL_law_1147 xs N k23 0 232 243 (Int32.ofInt (i : Int)) h) := by
  obtain ⟨y, h1, h2, e1, e2, J2⟩ := yA_whyNotLyndon (N := N) J hN
  refine ⟨h2, 0, ?_, J2⟩
  unfold fL_law_1147 fL_law_1563
  rw [e1, b2, e2, b2]
theorem yI_1160 (J : yA h c) (hi : i + 6 ≤ xs.length) (hx : xs.length ≤ 3072) (hN : 1000001 ≤ N) : yI k23 i (fL_law_1160 xs N k23 0 232 243 (Int32.ofInt (i : Int)) h) := by
  obtain ⟨y, h1, h2, e1, e2, J2⟩ := yA_isNecklace (N := N) J hN
  refine ⟨h2, 0, ?_, J2⟩
  unfold fL_law_1160 fL_law_1563
  rw [e1, b2, e2, b2]
theorem yI_1173 (J : yA h c) (hi : i + 6 ≤ xs.length) (hx : xs.length ≤ 3072) (hN : 1000001 ≤ N) : yI k23 i (fL_law_1173 xs N k23 0 232 243 (Int32.ofInt (i : Int)) h) := by
  obtain ⟨y, h1, h2, e1, e2, J2⟩ := yA_isPrenecklace (N := N) J hN
  refine ⟨h2, 0, ?_, J2⟩
  unfold fL_law_1173 fL_law_1563
  rw [e1, b2, e2, b2]
theorem yI_1186 (J : yA h c) (hi : i + 6 ≤ xs.length) (hx : xs.length ≤ 3072) (hN : 1000001 ≤ N) : yI k23 i (fL_law_1186 xs N k23 0 232 243 (Int32.ofInt (i : Int)) h) := by
  obtain ⟨y, h1, h2, e1, e2, J2⟩ := yA_keepingLetter (N := N) J hN
  refine ⟨h2, 0, ?_, J2⟩
  unfold fL_law_1186 fL_law_1563
  rw [e1, b2, e2, b2]
theorem yI_1199 (J : yA h c) (hi : i + 6 ≤ xs.length) (hx : xs.length ≤ 3072) (hN : 1000001 ≤ N) : yI k23 i (fL_law_1199 xs N k23 0 232 243 (Int32.ofInt (i : Int)) h) := by
  obtain ⟨y, h1, h2, e1, e2, J2⟩ := yA_leastRotation (N := N) J hN
  refine ⟨h2, 0, ?_, J2⟩
  unfold fL_law_1199 fL_law_1563
  rw [e1, b2, e2, b2]
theorem yI_1212 (J : yA h c) (hi : i + 6 ≤ xs.length) (hx : xs.length ≤ 3072) (hN : 1000001 ≤ N) : yI k23 i (fL_law_1212 xs N k23 0 232 243 (Int32.ofInt (i : Int)) h) := by
  obtain ⟨y, h1, h2, e1, e2, J2⟩ := yA_rotationCount (N := N) J hN
  refine ⟨h2, 0, ?_, J2⟩
  unfold fL_law_1212 fL_law_1563
  rw [e1, b2, e2, b2]
theorem yI_1225 (J : yA h c) (hi : i + 6 ≤ xs.length) (hx : xs.length ≤ 3072) (hN : 1000001 ≤ N) : yI k23 i (fL_law_1225 xs N k23 0 232 243 (Int32.ofInt (i : Int)) h) := by
  obtain ⟨y, h1, h2, e1, e2, J2⟩ := yA_smallestPeriod (N := N) J hN
  refine ⟨h2, 0, ?_, J2⟩
  unfold fL_law_1225 fL_law_1563
  rw [e1, b2, e2, b2]
theorem yI_1238 (J : yA h c) (hi : i + 6 ≤ xs.length) (hx : xs.length ≤ 3072) (hN : 1000001 ≤ N) : yI k23 i (fL_law_1238 xs N k23 0 232 243 (Int32.ofInt (i : Int)) h) := by
  obtain ⟨y, h1, h2, e1, e2, J2⟩ := yA_longestBorder (N := N) J hN
  refine ⟨h2, 0, ?_, J2⟩
  unfold fL_law_1238 fL_law_1563
  rw [e1, b2, e2, b2]
theorem yI_1251 (J : yA h c) (hi : i + 6 ≤ xs.length) (hx : xs.length ≤ 3072) (hN : 1000001 ≤ N) : yI k23 i (fL_law_1251 xs N k23 0 232 243 (Int32.ofInt (i : Int)) h) := by
  obtain ⟨y, h1, h2, e1, e2, J2⟩ := yA_leastSuffix (N := N) J hN
  refine ⟨h2, 0, ?_, J2⟩
  unfold fL_law_1251 fL_law_1563
  rw [e1, b2, e2, b2]
theorem yI_1264 (J : yA h c) (hi : i + 6 ≤ xs.length) (hx : xs.length ≤ 3072) (hN : 1000001 ≤ N) : yI k23 i (fL_law_1264 xs N k23 0 232 243 (Int32.ofInt (i : Int)) h) := by
  obtain ⟨y, h1, h2, e1, e2, J2⟩ := yA_greatestSuffix (N := N) J hN
  refine ⟨h2, 0, ?_, J2⟩
  unfold fL_law_1264 fL_law_1563
  rw [e1, b2, e2, b2]
theorem yI_1277 (J : yA h c) (hi : i + 6 ≤ xs.length) (hx : xs.length ≤ 3072) (hN : 1000001 ≤ N) : yI k23 i (fL_law_1277 xs N k23 0 232 243 (Int32.ofInt (i : Int)) h) := by
  obtain ⟨a1, r1, s1⟩ := yI_scr 1 (show i + 1 < xs.length by omega) hx
  have s1 : fScr xs (Int32.ofInt (i : Int) + Int32.ofInt 1) = some (Int32.ofInt a1) := s1
  obtain ⟨c', y, h1, h2, e1, e2, J2, o2, o3, o4⟩ := yA_lyndonWords (N := N) J hN a1 r1
  refine ⟨h2, c', ?_, J2⟩
  unfold fL_law_1277 fL_law_1563
  rw [s1, b1_s, e1, b2, b1_s, e2, b2]
theorem yI_1305 (J : yA h c) (hi : i + 6 ≤ xs.length) (hx : xs.length ≤ 3072) (hN : 1000001 ≤ N) : yI k23 i (fL_law_1305 xs N k23 0 232 243 (Int32.ofInt (i : Int)) h) := by
  obtain ⟨a1, r1, s1⟩ := yI_scr 1 (show i + 1 < xs.length by omega) hx
  have s1 : fScr xs (Int32.ofInt (i : Int) + Int32.ofInt 1) = some (Int32.ofInt a1) := s1
  obtain ⟨c', y, h1, h2, e1, e2, J2, o2, o3, o4⟩ := yA_necklaces (N := N) J hN a1 r1
  refine ⟨h2, c', ?_, J2⟩
  unfold fL_law_1305 fL_law_1563
  rw [s1, b1_s, e1, b2, b1_s, e2, b2]
theorem yI_1333 (J : yA h c) (hi : i + 6 ≤ xs.length) (hx : xs.length ≤ 3072) (hN : 1000001 ≤ N) : yI k23 i (fL_law_1333 xs N k23 0 232 243 (Int32.ofInt (i : Int)) h) := by
  obtain ⟨a1, r1, s1⟩ := yI_scr 1 (show i + 1 < xs.length by omega) hx
  have s1 : fScr xs (Int32.ofInt (i : Int) + Int32.ofInt 1) = some (Int32.ofInt a1) := s1
  obtain ⟨a2, r2, s2⟩ := yI_scr 2 (show i + 2 < xs.length by omega) hx
  have s2 : fScr xs (Int32.ofInt (i : Int) + Int32.ofInt 2) = some (Int32.ofInt a2) := s2
  obtain ⟨x, y, c', h1, h2, e1, e2, J2⟩ := yA_bruijnLetter (N := N) J hN a1 r1 a2 r2
  refine ⟨h2, c', ?_, J2⟩
  unfold fL_law_1333 fL_law_1563
  rw [s1, b1_s, s2, b1_s, e1, b2, b1_s, b1_s, e2, b2]
theorem yI_1373 (J : yA h c) (hi : i + 6 ≤ xs.length) (hx : xs.length ≤ 3072) (hN : 1000001 ≤ N) : yI k23 i (fL_law_1373 xs N k23 0 232 243 (Int32.ofInt (i : Int)) h) := by
  obtain ⟨y, h1, h2, e1, e2, J2⟩ := yA_keptCount (N := N) J hN
  refine ⟨h2, 0, ?_, J2⟩
  unfold fL_law_1373 fL_law_1563
  rw [e1, b2, e2, b2]
theorem yI_1386 (J : yA h c) (hi : i + 6 ≤ xs.length) (hx : xs.length ≤ 3072) (hN : 1000001 ≤ N) : yI k23 i (fL_law_1386 xs N k23 0 232 243 (Int32.ofInt (i : Int)) h) := by
  obtain ⟨a1, r1, s1⟩ := yI_scr 1 (show i + 1 < xs.length by omega) hx
  have s1 : fScr xs (Int32.ofInt (i : Int) + Int32.ofInt 1) = some (Int32.ofInt a1) := s1
  obtain ⟨c', y, h1, h2, e1, e2, J2, o2, o3, o4⟩ := yA_keptLength (N := N) J hN a1 r1
  refine ⟨h2, c', ?_, J2⟩
  unfold fL_law_1386 fL_law_1563
  rw [s1, b1_s, e1, b2, b1_s, e2, b2]
theorem yI_1414 (J : yA h c) (hi : i + 6 ≤ xs.length) (hx : xs.length ≤ 3072) (hN : 1000001 ≤ N) : yI k23 i (fL_law_1414 xs N k23 0 232 243 (Int32.ofInt (i : Int)) h) := by
  obtain ⟨a1, r1, s1⟩ := yI_scr 1 (show i + 1 < xs.length by omega) hx
  have s1 : fScr xs (Int32.ofInt (i : Int) + Int32.ofInt 1) = some (Int32.ofInt a1) := s1
  obtain ⟨a2, r2, s2⟩ := yI_scr 2 (show i + 2 < xs.length by omega) hx
  have s2 : fScr xs (Int32.ofInt (i : Int) + Int32.ofInt 2) = some (Int32.ofInt a2) := s2
  obtain ⟨c', y, h1, h2, e1, e2, J2, o2, o3, o4⟩ := yA_keptLetter (N := N) J hN a1 r1 a2 r2
  refine ⟨h2, c', ?_, J2⟩
  unfold fL_law_1414 fL_law_1563
  rw [s1, b1_s, s2, b1_s, e1, b2, b1_s, b1_s, e2, b2]
theorem yI_1454 (J : yA h c) (hi : i + 6 ≤ xs.length) (hx : xs.length ≤ 3072) (hN : 1000001 ≤ N) : yI k23 i (fL_law_1454 xs N k23 0 232 243 (Int32.ofInt (i : Int)) h) := by
  obtain ⟨y, h1, h2, e1, e2, J2⟩ := yA_isShelfFalling (N := N) J hN
  refine ⟨h2, 0, ?_, J2⟩
  unfold fL_law_1454 fL_law_1563
  rw [e1, b2, e2, b2]
theorem yI_1467 (J : yA h c) (hi : i + 6 ≤ xs.length) (hx : xs.length ≤ 3072) (hN : 1000001 ≤ N) : yI k23 i (fL_law_1467 xs N k23 0 232 243 (Int32.ofInt (i : Int)) h) := by
  obtain ⟨y, h1, h2, e1, e2, J2⟩ := yA_greatestKept (N := N) J hN
  refine ⟨h2, 0, ?_, J2⟩
  unfold fL_law_1467 fL_law_1563
  rw [e1, b2, e2, b2]
theorem yI_1480 (J : yA h c) (hi : i + 6 ≤ xs.length) (hx : xs.length ≤ 3072) (hN : 1000001 ≤ N) : yI k23 i (fL_law_1480 xs N k23 0 232 243 (Int32.ofInt (i : Int)) h) := by
  obtain ⟨y, h1, h2, e1, e2, J2⟩ := yA_meanFactor (N := N) J hN
  refine ⟨h2, 0, ?_, J2⟩
  unfold fL_law_1480 fL_law_1563
  rw [e1, b2, e2, b2]
theorem yI_1495 (J : yA h c) (hi : i + 6 ≤ xs.length) (hx : xs.length ≤ 3072) (hN : 1000001 ≤ N) : yI k23 i (fL_law_1495 xs N k23 0 232 243 (Int32.ofInt (i : Int)) h) := by
  obtain ⟨L, hL, h1, h2, e1, e2, J2⟩ := yA_lyndonShare (N := N) J hN
  refine ⟨h2, 0, ?_, J2⟩
  unfold fL_law_1495 fL_law_1563
  rw [e1, b2, if_pos (yI_share hL), e2, b2, if_pos (yI_share hL)]
theorem yI_1512 (J : yA h c) (hi : i + 6 ≤ xs.length) (hx : xs.length ≤ 3072) (hN : 1000001 ≤ N) : yI k23 i (fL_law_1512 xs N k23 0 232 243 (Int32.ofInt (i : Int)) h) := by
  obtain ⟨y, h1, h2, e1, e2, J2⟩ := yA_violations (N := N) J hN
  refine ⟨h2, 0, ?_, J2⟩
  unfold fL_law_1512 fL_law_1563
  rw [e1, b2, e2, b2]
theorem yI_1525 (J : yA h c) (hi : i + 6 ≤ xs.length) (hx : xs.length ≤ 3072) (hN : 1000001 ≤ N) : yI k23 i (fL_law_1525 xs N k23 0 232 243 (Int32.ofInt (i : Int)) h) := by
  obtain ⟨y, h1, h2, e1, e2, J2⟩ := yA_writeFactors (N := N) J hN
  refine ⟨h2, 0, ?_, J2⟩
  unfold fL_law_1525 fL_law_1563
  rw [e1, b2, e2, b2]
theorem yI_1538 (J : yA h c) (hi : i + 6 ≤ xs.length) (hx : xs.length ≤ 3072) (hN : 1000001 ≤ N) : yI k23 i (fL_law_1538 xs N k23 0 232 243 (Int32.ofInt (i : Int)) h) := by
  obtain ⟨a1, r1, s1⟩ := yI_scr 1 (show i + 1 < xs.length by omega) hx
  have s1 : fScr xs (Int32.ofInt (i : Int) + Int32.ofInt 1) = some (Int32.ofInt a1) := s1
  obtain ⟨y, h1, h2, e1, e2, J2⟩ := yA_reportByte (N := N) J hN a1 r1
  refine ⟨h2, 0, ?_, J2⟩
  unfold fL_law_1538 fL_law_1563
  rw [s1, b1_s, e1, b2, b1_s, e2, b2, yI_eq, cond_true]
end YIA
theorem yI_loop {xs : List Int32} {N : Nat} (hN : 1000001 ≤ N) (hx : xs.length ≤ 3072) : ∀ (d n i : Nat) (h : zH) (c : Int), yA h c → i ≤ xs.length → xs.length < i + 6 * d → d ≤ n → ∃ h', fL_law_23 xs N n 0 232 243 (Int32.ofInt (i : Int)) h = some (Int32.ofInt 1, h') := by
  intro d
  induction d with
  | zero => intro n i h c J h1 h2 h3; omega
  | succ d ih =>
    intro n i h c J h1 h2 h3
    obtain ⟨m, rfl⟩ : ∃ m, n = m + 1 := ⟨n - 1, by omega⟩
    rw [fL_law_23, show Int32.ofNat xs.length = Int32.ofInt (xs.length : Int) from Int32.ofInt_eq_ofNat.symm, zw_sub, zqo_gt _ _ (by omega) (by omega)]
    by_cases e : (xs.length : Int) - 6 < (i : Int)
    · exact ⟨h, by rw [decide_eq_true e, cond_true]⟩
    · have hi : i + 6 ≤ xs.length := by omega
      obtain ⟨a0, r0, s0⟩ := yI_scr (i := i) 0 (show i + 0 < xs.length by omega) hx
      have s0 : fScr xs (Int32.ofInt (i : Int) + Int32.ofInt 0) = some (Int32.ofInt a0) := s0
      rw [zw_add, Int.add_zero] at s0
      rw [decide_eq_false e, cond_false, s0, b1_s]
      generalize hv : (Int32.ofInt a0 &&& Int32.ofInt 63).toInt = v
      have key : yI (fL_law_23 xs N m) i (cond (decide (v < 0) || decide (58 < v)) (fL_law_1563 xs N (fL_law_23 xs N m) 0 232 243 (Int32.ofInt (i : Int)) h) (z_nth [fL_law_292 xs N (fL_law_23 xs N m) 0 232 243 (Int32.ofInt (i : Int)) h, fL_law_365 xs N (fL_law_23 xs N m) 0 232 243 (Int32.ofInt (i : Int)) h, fL_law_393 xs N (fL_law_23 xs N m) 0 232 243 (Int32.ofInt (i : Int)) h, fL_law_406 xs N (fL_law_23 xs N m) 0 232 243 (Int32.ofInt (i : Int)) h, fL_law_434 xs N (fL_law_23 xs N m) 0 232 243 (Int32.ofInt (i : Int)) h, fL_law_450 xs N (fL_law_23 xs N m) 0 232 243 (Int32.ofInt (i : Int)) h, fL_law_478 xs N (fL_law_23 xs N m) 0 232 243 (Int32.ofInt (i : Int)) h, fL_law_506 xs N (fL_law_23 xs N m) 0 232 243 (Int32.ofInt (i : Int)) h, fL_law_546 xs N (fL_law_23 xs N m) 0 232 243 (Int32.ofInt (i : Int)) h, fL_law_574 xs N (fL_law_23 xs N m) 0 232 243 (Int32.ofInt (i : Int)) h, fL_law_587 xs N (fL_law_23 xs N m) 0 232 243 (Int32.ofInt (i : Int)) h, fL_law_603 xs N (fL_law_23 xs N m) 0 232 243 (Int32.ofInt (i : Int)) h, fL_law_631 xs N (fL_law_23 xs N m) 0 232 243 (Int32.ofInt (i : Int)) h, fL_law_659 xs N (fL_law_23 xs N m) 0 232 243 (Int32.ofInt (i : Int)) h, fL_law_675 xs N (fL_law_23 xs N m) 0 232 243 (Int32.ofInt (i : Int)) h, fL_law_703 xs N (fL_law_23 xs N m) 0 232 243 (Int32.ofInt (i : Int)) h, fL_law_719 xs N (fL_law_23 xs N m) 0 232 243 (Int32.ofInt (i : Int)) h, fL_law_732 xs N (fL_law_23 xs N m) 0 232 243 (Int32.ofInt (i : Int)) h, fL_law_745 xs N (fL_law_23 xs N m) 0 232 243 (Int32.ofInt (i : Int)) h, fL_law_758 xs N (fL_law_23 xs N m) 0 232 243 (Int32.ofInt (i : Int)) h, fL_law_774 xs N (fL_law_23 xs N m) 0 232 243 (Int32.ofInt (i : Int)) h, fL_law_787 xs N (fL_law_23 xs N m) 0 232 243 (Int32.ofInt (i : Int)) h, fL_law_800 xs N (fL_law_23 xs N m) 0 232 243 (Int32.ofInt (i : Int)) h, fL_law_813 xs N (fL_law_23 xs N m) 0 232 243 (Int32.ofInt (i : Int)) h, fL_law_826 xs N (fL_law_23 xs N m) 0 232 243 (Int32.ofInt (i : Int)) h, fL_law_851 xs N (fL_law_23 xs N m) 0 232 243 (Int32.ofInt (i : Int)) h, fL_law_915 xs N (fL_law_23 xs N m) 0 232 243 (Int32.ofInt (i : Int)) h, fL_law_928 xs N (fL_law_23 xs N m) 0 232 243 (Int32.ofInt (i : Int)) h, fL_law_956 xs N (fL_law_23 xs N m) 0 232 243 (Int32.ofInt (i : Int)) h, fL_law_984 xs N (fL_law_23 xs N m) 0 232 243 (Int32.ofInt (i : Int)) h, fL_law_1012 xs N (fL_law_23 xs N m) 0 232 243 (Int32.ofInt (i : Int)) h, fL_law_1037 xs N (fL_law_23 xs N m) 0 232 243 (Int32.ofInt (i : Int)) h, fL_law_1050 xs N (fL_law_23 xs N m) 0 232 243 (Int32.ofInt (i : Int)) h, fL_law_1078 xs N (fL_law_23 xs N m) 0 232 243 (Int32.ofInt (i : Int)) h, fL_law_1106 xs N (fL_law_23 xs N m) 0 232 243 (Int32.ofInt (i : Int)) h, fL_law_1134 xs N (fL_law_23 xs N m) 0 232 243 (Int32.ofInt (i : Int)) h, fL_law_1147 xs N (fL_law_23 xs N m) 0 232 243 (Int32.ofInt (i : Int)) h, fL_law_1160 xs N (fL_law_23 xs N m) 0 232 243 (Int32.ofInt (i : Int)) h, fL_law_1173 xs N (fL_law_23 xs N m) 0 232 243 (Int32.ofInt (i : Int)) h, fL_law_1186 xs N (fL_law_23 xs N m) 0 232 243 (Int32.ofInt (i : Int)) h, fL_law_1199 xs N (fL_law_23 xs N m) 0 232 243 (Int32.ofInt (i : Int)) h, fL_law_1212 xs N (fL_law_23 xs N m) 0 232 243 (Int32.ofInt (i : Int)) h, fL_law_1225 xs N (fL_law_23 xs N m) 0 232 243 (Int32.ofInt (i : Int)) h, fL_law_1238 xs N (fL_law_23 xs N m) 0 232 243 (Int32.ofInt (i : Int)) h, fL_law_1251 xs N (fL_law_23 xs N m) 0 232 243 (Int32.ofInt (i : Int)) h, fL_law_1264 xs N (fL_law_23 xs N m) 0 232 243 (Int32.ofInt (i : Int)) h, fL_law_1277 xs N (fL_law_23 xs N m) 0 232 243 (Int32.ofInt (i : Int)) h, fL_law_1305 xs N (fL_law_23 xs N m) 0 232 243 (Int32.ofInt (i : Int)) h, fL_law_1333 xs N (fL_law_23 xs N m) 0 232 243 (Int32.ofInt (i : Int)) h, fL_law_1373 xs N (fL_law_23 xs N m) 0 232 243 (Int32.ofInt (i : Int)) h, fL_law_1386 xs N (fL_law_23 xs N m) 0 232 243 (Int32.ofInt (i : Int)) h, fL_law_1414 xs N (fL_law_23 xs N m) 0 232 243 (Int32.ofInt (i : Int)) h, fL_law_1454 xs N (fL_law_23 xs N m) 0 232 243 (Int32.ofInt (i : Int)) h, fL_law_1467 xs N (fL_law_23 xs N m) 0 232 243 (Int32.ofInt (i : Int)) h, fL_law_1480 xs N (fL_law_23 xs N m) 0 232 243 (Int32.ofInt (i : Int)) h, fL_law_1495 xs N (fL_law_23 xs N m) 0 232 243 (Int32.ofInt (i : Int)) h, fL_law_1512 xs N (fL_law_23 xs N m) 0 232 243 (Int32.ofInt (i : Int)) h, fL_law_1525 xs N (fL_law_23 xs N m) 0 232 243 (Int32.ofInt (i : Int)) h, fL_law_1538 xs N (fL_law_23 xs N m) 0 232 243 (Int32.ofInt (i : Int)) h] (v - 0).toNat none)) := by
        cases hb : decide (v < 0) || decide (58 < v) with
        | true => exact ⟨h, c, rfl, J⟩
        | false =>
          rw [Bool.or_eq_false_iff, decide_eq_false_iff_not, decide_eq_false_iff_not] at hb
          exact yI_nth (P := yI (fL_law_23 xs N m) i) _ _ ⟨yI_292 J hi hx hN, yI_365 J hi hx hN, yI_393 J hi hx hN, yI_406 J hi hx hN, yI_434 J hi hx hN, yI_450 J hi hx hN, yI_478 J hi hx hN, yI_506 J hi hx hN, yI_546 J hi hx hN, yI_574 J hi hx hN, yI_587 J hi hx hN, yI_603 J hi hx hN, yI_631 J hi hx hN, yI_659 J hi hx hN, yI_675 J hi hx hN, yI_703 J hi hx hN, yI_719 J hi hx hN, yI_732 J hi hx hN, yI_745 J hi hx hN, yI_758 J hi hx hN, yI_774 J hi hx hN, yI_787 J hi hx hN, yI_800 J hi hx hN, yI_813 J hi hx hN, yI_826 J hi hx hN, yI_851 J hi hx hN, yI_915 J hi hx hN, yI_928 J hi hx hN, yI_956 J hi hx hN, yI_984 J hi hx hN, yI_1012 J hi hx hN, yI_1037 J hi hx hN, yI_1050 J hi hx hN, yI_1078 J hi hx hN, yI_1106 J hi hx hN, yI_1134 J hi hx hN, yI_1147 J hi hx hN, yI_1160 J hi hx hN, yI_1173 J hi hx hN, yI_1186 J hi hx hN, yI_1199 J hi hx hN, yI_1212 J hi hx hN, yI_1225 J hi hx hN, yI_1238 J hi hx hN, yI_1251 J hi hx hN, yI_1264 J hi hx hN, yI_1277 J hi hx hN, yI_1305 J hi hx hN, yI_1333 J hi hx hN, yI_1373 J hi hx hN, yI_1386 J hi hx hN, yI_1414 J hi hx hN, yI_1454 J hi hx hN, yI_1467 J hi hx hN, yI_1480 J hi hx hN, yI_1495 J hi hx hN, yI_1512 J hi hx hN, yI_1525 J hi hx hN, yI_1538 J hi hx hN, trivial⟩ (show (v - 0).toNat < 59 by omega)
      obtain ⟨h', c', e', J'⟩ := key
      rw [zw_add, show (i : Int) + 6 = ((i + 6 : Nat) : Int) by omega] at e'
      obtain ⟨h4, e4⟩ := ih m (i + 6) h' c' J' (by omega) (by omega) (by omega)
      exact ⟨h4, e'.trans e4⟩
theorem yI_first : yA za_h2 0 := by
  obtain ⟨⟨rep, Y, hr⟩, F⟩ := za_m2y
  have l2 : ∀ p, p < 243 → za_h2[p]? = za_m2[p]? := fun p hp => List.getElem?_append_left (by rw [za_m2len]; exact hp)
  have l1 : ∀ p, p < 232 → za_m1[p]? = za_h1[p]? := fun p hp => List.getElem?_append_left (by rw [z_h1len]; exact hp)
  obtain ⟨fl, a, H, R⟩ := Y
  refine ⟨za_A0, [], (2, [], []), 0, [], ([], 0, -1), rep, zv_frame za_zv (fun p hp => ((l2 p (by omega)).trans (F.2 p (Or.inl hp))).trans (l1 p hp)), ⟨fl, a, zr_frame H (fun p h1 h2 => l2 p (by omega)), R⟩, Or.inl rfl, hr, by decide, .long 0, ?_⟩
  show (za_m2 ++ [(103, List.replicate 1 (.long 0))])[243]? = _
  rw [List.getElem?_append_right (by rw [za_m2len]; exact Nat.le_refl _), za_m2len]
  rfl
theorem yI_law (xs : List Int32) (hx : xs.length ≤ 3072) : ∃ h', fL_law_23 xs 2000000 3000 0 232 243 (Int32.ofInt 0) za_h2 = some (Int32.ofInt 1, h') := yI_loop (N := 2000000) (by omega) hx 600 3000 0 za_h2 0 yI_first (Nat.zero_le _) (by omega) (by omega)
