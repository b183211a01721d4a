/-! THE FIRST CALL: bruijnLetter. -/
/-- the class's heap while it lists: the trial word's row begins with seven bytes -/
def zb_H (st : List Int × Nat) : zH := (za_h2.set 231 (101, st.1.map (fun t => Value.int (Int32.ofInt t)) ++ List.replicate 114 (Value.int (Int32.ofInt 0)))).set 230 (4, [.ref 231, .int (Int32.ofInt (st.2 : Int))])
def zb_ok (st : List Int × Nat) : Bool := Nat.beq st.1.length 7 && Nat.ble st.2 7 && (st.1.take st.2).all fun t => decide (97 ≤ t ∧ t ≤ 99)
def zb_chain (n : Nat) : List (List Int × Nat) → Bool
  | [] => false
  | [a] => zb_ok a
  | a :: b :: r => zb_ok a && (Nat.ble 1 a.2 && (decide (fW_stepLyndon 3000 230 (Int32.ofInt (n : Int)) (Int32.ofInt 99) (zb_H a) = some ((), zb_H b)) && zb_chain n (b :: r)))
theorem zb_join {n : Nat} : ∀ {l m : List (List Int × Nat)}, zb_chain n l = true → zb_chain n m = true → l.getLast? = m.head? → zb_chain n (l ++ m.tail) = true := by
  intro l
  induction l with
  | nil => intro m h; cases h
  | cons a r ih =>
    intro m h1 h2 h3
    cases r with
    | nil =>
      cases m with
      | nil => cases h2
      | cons b s =>
        cases h3
        exact h2
    | cons b r =>
      rw [zb_chain, Bool.and_eq_true, Bool.and_eq_true, Bool.and_eq_true] at h1
      obtain ⟨c1, c2, c3, c4⟩ := h1
      have h5 := ih c4 h2 (by rw [← h3]; rfl)
      show zb_chain n (a :: b :: (r ++ m.tail)) = true
      rw [zb_chain, Bool.and_eq_true, Bool.and_eq_true, Bool.and_eq_true]
      exact ⟨c1, c2, c3, h5⟩
