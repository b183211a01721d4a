/-! A run over the tables without the script is a run over any script; runs of local and heap steps, counted. -/
/-- the tables without the script -/
def za_Tb : zT := (za_S0, za_sf, za_ss, za_num, za_fty, za_fresh, za_elem)
theorem z_hg_ap {S1 S2 : List zC} {h : zH} {q : Nat} {c : zC} (e : z_hg S1 h q = some c) : z_hg (S1 ++ S2) h q = some c := by
  rcases z_hg_cases e with ⟨g, e'⟩ | ⟨g, e'⟩
  · unfold z_hg
    rw [Nat.blt_eq.mpr g]
    exact e'
  · have hb : Nat.blt q 1000000 = false := by
      cases hb : Nat.blt q 1000000 with
      | false => rfl
      | true => exact absurd (Nat.blt_eq.mp hb) (Nat.not_lt.mpr g)
    unfold z_hg
    rw [hb]
    generalize q - 1000000 = j at e' ⊢
    show (S1 ++ S2)[j]? = some c
    rw [List.getElem?_append_left (List.getElem?_eq_some_iff.mp e').1]
    exact e'
section ZB
variable {xs : List Int32}
theorem z_hgb {h : zH} {q : Nat} {c : zC} (e : z_hg za_Tb.1 h q = some c) : z_hg (za_T xs).1 h q = some c := z_hg_ap (S2 := [(100, xs.map Value.int)]) e
theorem z_rcvb {h : zH} {st : List Value} {t : Nat} (e : z_rcv za_Tb h st t = true) : z_rcv (za_T xs) h st t = true := by
  unfold z_rcv at e ⊢
  split at e
  · split at e
    · rename_i c e1
      simp only [z_hgb e1]
      exact e
    · cases e
  · cases e
theorem z_aldb {t0 pc : Nat} {st : List Value} {h : zH} {r : zHR} (e : z_ald za_Tb t0 pc st h = some r) : z_ald (za_T xs) t0 pc st h = some r := by
  unfold z_ald at e ⊢
  split at e
  · split at e
    · rename_i t vs e1
      simp only [z_hgb e1]
      exact e
    · cases e
  · cases e
set_option maxHeartbeats 4000000 in
theorem z_hpb {i : Instr} {pc a b : Nat} {st : List Value} {h : zH} {r : zHR} (e : z_hp za_Tb i pc a b st h = some r) : z_hp (za_T xs) i pc a b st h = some r := by
  cases i
  case getfield idx =>
    simp only [z_hp] at e ⊢
    split at e
    · split at e
      · rename_i t vs e1
        simp only [z_hgb e1]
        exact e
      · cases e
    · cases e
  case arraylength =>
    simp only [z_hp] at e ⊢
    split at e
    · split at e
      · rename_i t vs e1
        simp only [z_hgb e1]
        exact e
      · cases e
    · cases e
  case aaload =>
    simp only [z_hp] at e ⊢
    split at e
    · split at e
      · rename_i t vs e1
        simp only [z_hgb e1]
        exact e
      · cases e
    · cases e
  case invokespecial idx =>
    simp only [z_hp] at e ⊢
    split at e
    · split at e
      · rename_i c e1
        simp only [z_hgb e1]
        exact e
      · cases e
    · cases e
  case ifnull off =>
    simp only [z_hp] at e ⊢
    split at e
    · exact e
    · split at e
      · rename_i c e1
        simp only [z_hgb e1]
        exact e
      · cases e
    · cases e
  case ifnonnull off =>
    simp only [z_hp] at e ⊢
    split at e
    · exact e
    · split at e
      · rename_i c e1
        simp only [z_hgb e1]
        exact e
      · cases e
    · cases e
  case iaload => exact z_aldb e
  case baload => exact z_aldb e
  all_goals exact e
set_option maxHeartbeats 4000000 in
theorem z_runb : ∀ (f d y pc : Nat) (lv : List (Nat × Value)) (st : List Value) (h : zH) (cs ss : Nat) (r : zO), z_run za_Tb za_P f d y pc lv st h cs ss = some r → z_run (za_T xs) za_P f d y pc lv st h cs ss = some r := by
  intro f
  induction f with
  | zero => intro d y pc lv st h cs ss r er; cases er
  | succ f ih =>
    intro d y pc lv st h cs ss r er
    rw [z_run] at er ⊢
    split at er
    · cases er
    · split at er
      · split at er
        · exact ih _ _ _ _ _ _ _ _ _ er
        · cases er
      · split at er
        · rename_i e2
          simp only [z_hpb e2]
          exact ih _ _ _ _ _ _ _ _ _ er
        · cases er
      · exact er
      · exact er
      · exact er
      · split at er
        · cases er
        · split at er
          · rename_i hc
            rw [if_pos ⟨hc.1, hc.2.1, hc.2.2.1, fun hz => z_rcvb (hc.2.2.2 hz)⟩]
            split at er
            · cases er
            · rename_i e2
              simp only [ih _ _ _ _ _ _ _ _ _ e2]
              exact ih _ _ _ _ _ _ _ _ _ er
            · rename_i e2
              simp only [ih _ _ _ _ _ _ _ _ _ e2]
              exact er
          · cases er
/-- n steps, local or of the heap -/
def z_it (T : zT) (P : zP) (y : Nat) : Nat → Nat × List (Nat × Value) × List Value × zH × Nat × Nat → Option (Nat × List (Nat × Value) × List Value × zH × Nat × Nat)
  | 0, r => some r
  | n + 1, (pc, lv, st, h, cs, ss) => match z_at (P.1 y) pc with
    | some (i, _, a, b) => (match z_kind i a b with
      | 0 => (match z_loc i pc a (P.2.1 y) lv st with
        | some (pc2, lv2, st2) => z_it T P y n (pc2, lv2, st2, h, cs, ss)
        | none => none)
      | 1 => (match z_hp T i pc a b st h with
        | some (pc2, st2, h2, dc, ds) => z_it T P y n (pc2, lv, st2, h2, cs + dc, ss + ds)
        | none => none)
      | _ => none)
    | none => none
theorem z_it_run {d y : Nat} : ∀ (n pc : Nat) (lv : List (Nat × Value)) (st : List Value) (h : zH) (cs ss pc2 : Nat) (lv2 : List (Nat × Value)) (st2 : List Value) (h2 : zH) (c2 s2 : Nat), z_it za_Tb za_P y n (pc, lv, st, h, cs, ss) = some (pc2, lv2, st2, h2, c2, s2) → ∀ f, z_run (za_T xs) za_P (f + n) d y pc lv st h cs ss = z_run (za_T xs) za_P f d y pc2 lv2 st2 h2 c2 s2 := by
  intro n
  induction n with
  | zero => intro pc lv st h cs ss pc2 lv2 st2 h2 c2 s2 e f; cases e; rfl
  | succ n ih =>
    intro pc lv st h cs ss pc2 lv2 st2 h2 c2 s2 e f
    rw [z_it] at e
    rw [show f + (n + 1) = (f + n) + 1 by omega, z_run]
    split at e
    · rename_i i len a b e1
      simp only [e1]
      split at e
      · rename_i hk
        simp only [hk]
        split at e
        · rename_i e2
          simp only [e2]
          exact ih _ _ _ _ _ _ _ _ _ _ _ _ e f
        · cases e
      · rename_i hk
        simp only [hk]
        split at e
        · rename_i e2
          simp only [z_hpb e2]
          exact ih _ _ _ _ _ _ _ _ _ _ _ _ e f
        · cases e
      · cases e
    · cases e
end ZB
