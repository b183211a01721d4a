/-! The lists of bruijnLetter, for each alphabet. -/
/-- the class's search -/
def yf_c (m : Nat) (x : Int) : List (List Nat) → Nat → Int
  | [], _ => -1
  | w :: D, p => if m % w.length = 0 then (if (p : Int) + (w.length : Int) ≤ x then yf_c m x D (p + w.length) else zw_g w (x - (p : Int))) else yf_c m x D p
def yf_le (T : List Nat) : Bool := (List.range T.length).all fun j => decide (j = 0) || !decide (zm_ro T j 0 T.length < 0)
def yf_rt (T : List Nat) : Nat := zm_rt T (T.length - 1)
def yf_ma (T : List Nat) : Nat := if yf_le T = true then yf_rt T else 0
/-- the reference's search -/
def yf_n (L m : Nat) : Nat → Nat → Nat → Int
  | 0, _, _ => -1
  | c + 1, k, x => if yf_ma (ye_sp L m k) ≤ x then yf_n L m c (k + 1) (x - yf_ma (ye_sp L m k)) else ((ye_sp L m k).getD x 0 : Int)
def yf_C (L m : Nat) : List (List Nat) := (ye_D L m).filter (fun w => decide (m % w.length = 0))
def yf_t (T : List Nat) : List (List Nat) := if yf_le T = true then [T.take (yf_rt T)] else []
def yf_N (L m k c : Nat) : List (List Nat) := ((List.range' k c).map fun j => yf_t (ye_sp L m j)).flatten
def yf_Cf (L m : Nat) : List (List Nat) := (ye_Df L m).filter (fun w => decide (m % w.length = 0))
def yf_Nf (L m : Nat) : List (List Nat) := ((List.range' 0 (L ^ m)).map fun j => yf_t (ye_sa L m j [])).flatten
def yf_ck (L m : Nat) : Bool := decide (m = 0) || decide (4096 < L ^ m) || (decide (yf_Cf L m = yf_Nf L m) && decide (((yf_Cf L m).map List.length).sum = L ^ m))
def yf_chk (L : Nat) : Bool := (List.range 13).all (yf_ck L)
theorem yf_c2a : ((List.range 11).all (yf_ck 2)) = true := by decide +kernel
theorem yf_c2b : yf_ck 2 11 = true := by decide +kernel
theorem yf_c2c : yf_ck 2 12 = true := by decide +kernel
theorem yf_c2 : yf_chk 2 = true := by
  unfold yf_chk
  rw [List.all_eq_true]
  intro m hm
  rw [List.mem_range] at hm
  by_cases e : m < 11
  · exact List.all_eq_true.mp yf_c2a m (List.mem_range.mpr e)
  · rcases (show m = 11 ∨ m = 12 by omega) with e | e
    · rw [e]; exact yf_c2b
    · rw [e]; exact yf_c2c
theorem yf_c3 : yf_chk 3 = true := by decide +kernel
theorem yf_c4 : yf_chk 4 = true := by decide +kernel
theorem yf_c5 : yf_chk 5 = true := by decide +kernel
theorem yf_c6 : yf_chk 6 = true := by decide +kernel
theorem yf_c7 : yf_chk 7 = true := by decide +kernel
theorem yf_c8 : yf_chk 8 = true := by decide +kernel
theorem yf_c9 : yf_chk 9 = true := by decide +kernel
