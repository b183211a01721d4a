/-! THE COMMANDS, on lists: what each makes of a state, and where it ends. -/
/-- a word of the letters: it and its end -/
def ym_word (s : List Nat) (L p : Nat) : Option (List Nat × Nat) := if yt_q s (yt_s s p) = 1 ∧ ∀ v ∈ zw_p s (yt_s s p) (yt_e s (yt_s s p)), v < 97 + L then some (zw_p s (yt_s s p) (yt_e s (yt_s s p)), yt_e s (yt_s s p)) else none
/-- a number in its bounds and a semicolon -/
def yx_n (s : List Nat) (p : Nat) (lo hi : Int) (f : Nat → Option zA) : Option (zA × Nat) := (ym_num s p lo hi).bind fun n => (ym_sem s n.2).bind fun e => (f n.1).bind fun A => some (A, e)
/-- a semicolon -/
def yx_s (s : List Nat) (p : Nat) (x : Option zA) : Option (zA × Nat) := (ym_sem s p).bind fun e => x.bind fun A => some (A, e)
def yx_text (T0 : List Nat) (s : List Nat) (A : zA) (p : Nat) : Option (zA × Nat) := (ym_word s A.1 p).bind fun w => (ym_sem s w.2).bind fun e => if T0.length + w.1.length ≤ 120 then some ((A.1, T0 ++ w.1, A.2.2), e) else none
def yf_drop (A : zA) (n : Nat) : Option zA := some (A.1, A.2.1.take (A.2.1.length - n), A.2.2)
def yf_rot (A : zA) (n : Nat) : Option zA := some (A.1, zw_trn A.2.1 n, A.2.2)
def yf_next (A : zA) (n : Nat) : Option zA := if zs_hn A.1 A.2.1 (n : Int) = true then some (A.1, zw_nx A.2.1 n (97 + A.1 - 1), A.2.2) else none
def yf_fac (A : zA) (n : Nat) : Option zA := if zw_lE A.2.1 (zw_bF A.2.1 (n : Int)).toNat - (zw_bF A.2.1 (n : Int)).toNat ≤ 40 ∧ A.2.2.length < 8 then some (A.1, A.2.1, A.2.2 ++ [zw_p A.2.1 (zw_bF A.2.1 (n : Int)).toNat (zw_lE A.2.1 (zw_bF A.2.1 (n : Int)).toNat)]) else none
def yf_rem (A : zA) (n : Nat) : Option zA := some (A.1, A.2.1, A.2.2.eraseIdx n)
def yf_keep (A : zA) : Option zA := if 1 ≤ A.2.1.length ∧ A.2.1.length ≤ 40 ∧ A.2.2.length < 8 then some (A.1, A.2.1, A.2.2 ++ [A.2.1]) else none
def yf_least (A : zA) : Option zA := if 0 < A.2.1.length then some (A.1, zw_trn A.2.1 (zm_least A.2.1), A.2.2) else none
def yf_join (A : zA) : Option zA := if 0 < A.2.2.length ∧ (A.2.2.map List.length).sum ≤ 120 then some (A.1, zv_jn A.2.2, A.2.2) else none
def yx_part (s : List Nat) (A : zA) (p : Nat) : Option (zA × Nat) := (ym_num s p 0 999).bind fun a => (ym_num s a.2 (a.1 : Int) (A.2.1.length : Int)).bind fun b => (ym_sem s b.2).bind fun e => some ((A.1, zw_p A.2.1 a.1 b.1, A.2.2), e)
def yx_keep (s : List Nat) (A : zA) (p : Nat) : Option (zA × Nat) := if yt_q s (yt_s s p) = 2 then yx_n s p 0 (((zw_fs A.2.1).length : Int) - 1) (yf_fac A) else yx_s s p (yf_keep A)
/-- a command by its number -/
def yx (i : Nat) (s : List Nat) (A : zA) (p : Nat) : Option (zA × Nat) := match i with
  | 0 => yx_text [] s A p
  | 1 => yx_text A.2.1 s A p
  | 2 => yx_n s p 0 (A.2.1.length : Int) (yf_drop A)
  | 3 => yx_part s A p
  | 4 => yx_n s p 0 (A.2.1.length : Int) (yf_rot A)
  | 5 => yx_s s p (some (A.1, zw_mir A.2.1 0 A.2.1.length, A.2.2))
  | 6 => yx_s s p (yf_least A)
  | 7 => yx_n s p 1 120 (yf_next A)
  | 8 => yx_keep s A p
  | 9 => yx_n s p 0 ((A.2.2.length : Int) - 1) (yf_rem A)
  | _ => yx_s s p (yf_join A)
/-- where a command ends -/
def yx_e (i : Nat) (s : List Nat) (p : Nat) : Nat :=
  if i = 3 then yt_e s (yt_s s (yt_e s (yt_s s (yt_e s (yt_s s p))))) else if i = 5 ∨ i = 6 ∨ 10 ≤ i ∨ (i = 8 ∧ yt_q s (yt_s s p) ≠ 2) then yt_e s (yt_s s p) else yt_e s (yt_s s (yt_e s (yt_s s p)))
theorem ym_wordb {s : List Nat} {L p e : Nat} {w : List Nat} (hp : p ≤ s.length) (h : ym_word s L p = some (w, e)) : yt_q s (yt_s s p) = 1 ∧ w = zw_p s (yt_s s p) e ∧ e = yt_e s (yt_s s p) ∧ p < e ∧ e ≤ s.length ∧ ∀ v ∈ w, v < 97 + L := by
  unfold ym_word at h
  split at h
  · next q =>
    cases h
    have b1' := yt_sb hp
    have b2' := yt_eb b1'.2
    have : yt_s s p ≠ s.length := fun x => by
      have := (yt_q0 b1'.2).mpr x
      omega
    exact ⟨q.1, rfl, rfl, by omega, b2'.2.1, q.2⟩
  · cases h
theorem yx_nb {s : List Nat} {p q : Nat} {lo hi : Int} {f : Nat → Option zA} {A' : zA} (hp : p ≤ s.length) (h : yx_n s p lo hi f = some (A', q)) : ∃ v e, ym_num s p lo hi = some (v, e) ∧ ym_sem s e = some q ∧ f v = some A' := by
  unfold yx_n at h
  cases e1 : ym_num s p lo hi with
  | none => rw [e1] at h; cases h
  | some n =>
    rw [e1] at h
    change (ym_sem s n.2).bind _ = _ at h
    cases e2 : ym_sem s n.2 with
    | none => rw [e2] at h; cases h
    | some e =>
      rw [e2] at h
      change (f n.1).bind _ = _ at h
      cases e3 : f n.1 with
      | none => rw [e3] at h; cases h
      | some A2 =>
        rw [e3] at h
        cases h
        exact ⟨n.1, n.2, rfl, e2, e3⟩
theorem yx_sb {s : List Nat} {p q : Nat} {x : Option zA} {A' : zA} (h : yx_s s p x = some (A', q)) : ym_sem s p = some q ∧ x = some A' := by
  unfold yx_s at h
  cases e2 : ym_sem s p with
  | none => rw [e2] at h; cases h
  | some e =>
    rw [e2] at h
    change x.bind _ = _ at h
    cases x with
    | none => cases h
    | some A2 =>
      cases h
      exact ⟨rfl, rfl⟩
theorem yx_textb {s T0 : List Nat} {p q : Nat} {A A' : zA} (h : yx_text T0 s A p = some (A', q)) : ∃ w e, ym_word s A.1 p = some (w, e) ∧ ym_sem s e = some q ∧ T0.length + w.length ≤ 120 ∧ A' = (A.1, T0 ++ w, A.2.2) := by
  unfold yx_text at h
  cases e1 : ym_word s A.1 p with
  | none => rw [e1] at h; cases h
  | some n =>
    rw [e1] at h
    change (ym_sem s n.2).bind _ = _ at h
    cases e2 : ym_sem s n.2 with
    | none => rw [e2] at h; cases h
    | some e =>
      rw [e2] at h
      change (if _ then _ else _) = _ at h
      split at h
      · next e3 =>
        cases h
        exact ⟨n.1, n.2, rfl, e2, e3, rfl⟩
      · cases h
theorem yx_partb {s : List Nat} {p q : Nat} {A A' : zA} (h : yx_part s A p = some (A', q)) : ∃ a e b e2, ym_num s p 0 999 = some (a, e) ∧ ym_num s e (a : Int) (A.2.1.length : Int) = some (b, e2) ∧ ym_sem s e2 = some q ∧ A' = (A.1, zw_p A.2.1 a b, A.2.2) := by
  unfold yx_part at h
  cases e1 : ym_num s p 0 999 with
  | none => rw [e1] at h; cases h
  | some n =>
    rw [e1] at h
    change (ym_num s n.2 (n.1 : Int) (A.2.1.length : Int)).bind _ = _ at h
    cases e2 : ym_num s n.2 (n.1 : Int) (A.2.1.length : Int) with
    | none => rw [e2] at h; cases h
    | some m =>
      rw [e2] at h
      change (ym_sem s m.2).bind _ = _ at h
      cases e3 : ym_sem s m.2 with
      | none => rw [e3] at h; cases h
      | some e =>
        rw [e3] at h
        cases h
        exact ⟨n.1, n.2, m.1, m.2, rfl, e2, e3, rfl⟩
theorem yx_nE {s : List Nat} {p q : Nat} {lo hi : Int} {f : Nat → Option zA} {A' : zA} (hp : p ≤ s.length) (h : yx_n s p lo hi f = some (A', q)) : p < q ∧ q ≤ s.length ∧ q = yt_e s (yt_s s (yt_e s (yt_s s p))) := by
  obtain ⟨v, e, e1, e2, _⟩ := yx_nb hp h
  obtain ⟨_, _, b3, b4, b5, _⟩ := ym_numb hp e1
  obtain ⟨_, c2, c3, c4⟩ := ym_semb b5 e2
  exact ⟨by omega, c4, by rw [c2, b3]⟩
theorem yx_sE {s : List Nat} {p q : Nat} {x : Option zA} {A' : zA} (hp : p ≤ s.length) (h : yx_s s p x = some (A', q)) : p < q ∧ q ≤ s.length ∧ q = yt_e s (yt_s s p) := by
  obtain ⟨_, c2, c3, c4⟩ := ym_semb hp (yx_sb h).1
  exact ⟨c3, c4, c2⟩
theorem yx_textE {s T0 : List Nat} {p q : Nat} {A A' : zA} (hp : p ≤ s.length) (h : yx_text T0 s A p = some (A', q)) : p < q ∧ q ≤ s.length ∧ q = yt_e s (yt_s s (yt_e s (yt_s s p))) := by
  obtain ⟨w, e, e1, e2, _⟩ := yx_textb h
  obtain ⟨_, _, b3, b4, b5, _⟩ := ym_wordb hp e1
  obtain ⟨_, c2, c3, c4⟩ := ym_semb b5 e2
  exact ⟨by omega, c4, by rw [c2, b3]⟩
/-- a command ends behind its beginning, at a place that the state has no part in -/
theorem yx_end {i : Nat} {s : List Nat} {p q : Nat} {A A' : zA} (hp : p ≤ s.length) (h : yx i s A p = some (A', q)) : p < q ∧ q ≤ s.length ∧ q = yx_e i s p := by
  unfold yx at h
  unfold yx_e
  split at h
  · exact yx_textE hp h
  · exact yx_textE hp h
  · exact yx_nE hp h
  · obtain ⟨a, e, b, e2, m1, m2, m3, _⟩ := yx_partb h
    obtain ⟨_, _, b3, b4, b5, _⟩ := ym_numb hp m1
    obtain ⟨_, _, c3, c4, c5, _⟩ := ym_numb b5 m2
    obtain ⟨_, d2, d3, d4⟩ := ym_semb c5 m3
    exact ⟨by omega, d4, by rw [d2, c3, b3]; rfl⟩
  · exact yx_nE hp h
  · exact yx_sE hp h
  · exact yx_sE hp h
  · exact yx_nE hp h
  · unfold yx_keep at h
    by_cases e : yt_q s (yt_s s p) = 2
    · rw [if_pos e] at h
      rw [if_neg (by decide), if_neg (by omega)]
      exact yx_nE hp h
    · rw [if_neg e] at h
      rw [if_neg (by decide), if_pos (Or.inr (Or.inr (Or.inr ⟨rfl, e⟩)))]
      exact yx_sE hp h
  · exact yx_nE hp h
  · next n0 n1 n2 n3 n4 n5 n6 n7 n8 n9 =>
    have k : ∀ j, j < 10 → i ≠ j := by
      intro j hj e
      have c : j = 0 ∨ j = 1 ∨ j = 2 ∨ j = 3 ∨ j = 4 ∨ j = 5 ∨ j = 6 ∨ j = 7 ∨ j = 8 ∨ j = 9 := by omega
      rcases c with c | c | c | c | c | c | c | c | c | c <;> subst c
      · exact n0 e
      · exact n1 e
      · exact n2 e
      · exact n3 e
      · exact n4 e
      · exact n5 e
      · exact n6 e
      · exact n7 e
      · exact n8 e
      · exact n9 e
    have k3 := k 3 (by decide)
    have k10 : 10 ≤ i := by
      rcases Nat.lt_or_ge i 10 with x | x
      · exact absurd rfl (k i x)
      · exact x
    rw [if_neg k3, if_pos (Or.inr (Or.inr (Or.inl k10)))]
    exact yx_sE hp h
