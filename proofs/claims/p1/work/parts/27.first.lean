/-! THE FIRST CALL: a case of the law out of its answers on the fresh objects. -/
def z_eqA (B M : zH → Option (Int32 × zH)) (h : zH) : Bool := match B h with
  | some (x, h3) => (match M h3 with | some (y, _) => z_cmp .eq x y | none => false)
  | none => false
def z_eqC {α : Type} (cv : α → Int64) (L : zH → Option (Int32 × zH)) (M : zH → Option (α × zH)) (T : zH → Option (Int32 × zH)) (l3 : Nat) (h : zH) : Bool := match L h with
  | some (x, h3) => (match M h3 with
    | some (y, h5) => (match T h5 with
      | some (z, h7) => z_cmp .eq z x && (z_cmp .ne x (Int32.ofInt 0) || (match fAL h7 l3 103 (Int32.ofInt 0) with | some w => z_cmp .eq (lg_cmp w (cv y)) (Int32.ofInt 0) | none => false))
      | none => false)
    | none => false)
  | none => false
theorem z_caseA {B M : zH → Option (Int32 × zH)} {h : zH} {K : zH → Option (Int32 × zH)} (hk : ∀ h, K h = some (Int32.ofInt 1, h)) (e : z_eqA B M h = true) : ∃ h', (b2 (B h) fun x2 h3 => b2 (M h3) fun x4 h5 => cond (z_cmp .eq x2 x4) (K h5) (some (Int32.ofInt 0, h5))) = some (Int32.ofInt 1, h') := by
  unfold z_eqA at e
  cases hb : B h with
  | none => rw [hb] at e; cases e
  | some p =>
    obtain ⟨x, h3⟩ := p
    rw [hb] at e
    cases hm : M h3 with
    | none => simp only [hm] at e; cases e
    | some q =>
      obtain ⟨y, h5⟩ := q
      simp only [hm] at e
      simp only [b2, hm, e, cond_true]
      exact ⟨h5, hk h5⟩
theorem z_caseC {α : Type} {cv : α → Int64} {L : zH → Option (Int32 × zH)} {M : zH → Option (α × zH)} {T : zH → Option (Int32 × zH)} {l3 : Nat} {h : zH} {K K2 : zH → Option (Int32 × zH)} (hk : ∀ h, K h = some (Int32.ofInt 1, h)) (hk2 : ∀ h, K2 h = some (Int32.ofInt 1, h)) (e : z_eqC cv L M T l3 h = true) :
    ∃ h', (b2 (L h) fun x2 h3 => b2 (M h3) fun x4 h5 => b2 (T h5) fun x6 h7 => cond (z_cmp .eq x6 x2) (cond (z_cmp .ne x2 (Int32.ofInt 0)) (K h7) (b1 (fAL h7 l3 103 (Int32.ofInt 0)) fun x8 => cond (z_cmp .eq (lg_cmp x8 (cv x4)) (Int32.ofInt 0)) (K2 h7) (some (Int32.ofInt 0, h7)))) (some (Int32.ofInt 0, h7))) = some (Int32.ofInt 1, h') := by
  unfold z_eqC at e
  cases hb : L h with
  | none => rw [hb] at e; cases e
  | some p =>
    obtain ⟨x, h3⟩ := p
    rw [hb] at e
    cases hm : M h3 with
    | none => simp only [hm] at e; cases e
    | some q =>
      obtain ⟨y, h5⟩ := q
      simp only [hm] at e
      cases ht : T h5 with
      | none => simp only [ht] at e; cases e
      | some u =>
        obtain ⟨z, h7⟩ := u
        simp only [ht, Bool.and_eq_true] at e
        obtain ⟨e1, e2⟩ := e
        simp only [b2, hm, ht, e1, cond_true]
        cases hne : z_cmp .ne x (Int32.ofInt 0) with
        | true => exact ⟨h7, hk h7⟩
        | false =>
          rw [hne, Bool.false_or] at e2
          cases ha : fAL h7 l3 103 (Int32.ofInt 0) with
          | none => rw [ha] at e2; cases e2
          | some w =>
            rw [ha] at e2
            simp only [b1, cond_false, e2, cond_true]
            exact ⟨h7, hk2 h7⟩
def z_eqD (B M : zH → Option (UInt64 × zH)) (h : zH) : Bool := match B h with
  | some (x, h3) => (match M h3 with | some (y, _) => z_cmp .eq (Op.cmpValue (FP.dcmp x y) .l) (Int32.ofInt 0) | none => false)
  | none => false
theorem z_caseD {B M : zH → Option (UInt64 × zH)} {h : zH} {K : zH → Option (Int32 × zH)} {Z : UInt64 → UInt64 → zH → Option (Int32 × zH)} (hk : ∀ h, K h = some (Int32.ofInt 1, h)) (e : z_eqD B M h = true) : ∃ h', (b2 (B h) fun x2 h3 => b2 (M h3) fun x4 h5 => cond (z_cmp .eq (Op.cmpValue (FP.dcmp x2 x4) .l) (Int32.ofInt 0)) (K h5) (Z x2 x4 h5)) = some (Int32.ofInt 1, h') := by
  unfold z_eqD at e
  cases hb : B h with
  | none => rw [hb] at e; cases e
  | some p =>
    obtain ⟨x, h3⟩ := p
    rw [hb] at e
    cases hm : M h3 with
    | none => simp only [hm] at e; cases e
    | some q =>
      obtain ⟨y, h5⟩ := q
      simp only [hm] at e
      simp only [b2, hm, e, cond_true]
      exact ⟨h5, hk h5⟩
def z_eqF (B M : zH → Option (UInt32 × zH)) (h : zH) : Bool := match B h with
  | some (x, h3) => (match M h3 with | some (y, _) => decide (FP.f2d x &&& 0x7fffffffffffffff ≤ 0x7ff0000000000000) && (decide (FP.f2d y &&& 0x7fffffffffffffff ≤ 0x7ff0000000000000) && z_cmp .eq (Op.cmpValue (FP.dcmp (FP.f2d x) (FP.f2d y)) .l) (Int32.ofInt 0)) | none => false)
  | none => false
theorem z_caseF {B M : zH → Option (UInt32 × zH)} {h : zH} {K : zH → Option (Int32 × zH)} {Z : UInt32 → UInt32 → zH → Option (Int32 × zH)} (hk : ∀ h, K h = some (Int32.ofInt 1, h)) (e : z_eqF B M h = true) : ∃ h', (b2 (B h) fun x2 h3 => (if FP.f2d x2 &&& 0x7fffffffffffffff ≤ 0x7ff0000000000000 then b2 (M h3) fun x4 h5 => (if FP.f2d x4 &&& 0x7fffffffffffffff ≤ 0x7ff0000000000000 then cond (z_cmp .eq (Op.cmpValue (FP.dcmp (FP.f2d x2) (FP.f2d x4)) .l) (Int32.ofInt 0)) (K h5) (Z x2 x4 h5) else none) else none)) = some (Int32.ofInt 1, h') := by
  unfold z_eqF at e
  cases hb : B h with
  | none => rw [hb] at e; cases e
  | some p =>
    obtain ⟨x, h3⟩ := p
    rw [hb] at e
    cases hm : M h3 with
    | none => simp only [hm] at e; cases e
    | some q =>
      obtain ⟨y, h5⟩ := q
      simp only [hm, Bool.and_eq_true, decide_eq_true_eq] at e
      obtain ⟨e1, e2, e3⟩ := e
      simp only [b2]
      rw [if_pos e1]
      simp only [hm]
      rw [if_pos e2, e3, cond_true]
      exact ⟨h5, hk h5⟩
