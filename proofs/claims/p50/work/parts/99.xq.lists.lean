/-! The lists of rankOf: the class's listing against the reference's numbers, for each alphabet. -/
/-- the class's listing -/
def ye_l (m g : Nat) : Nat → List Nat → List (List Nat)
  | 0, _ => []
  | c + 1, w => if w.length = 0 then [] else w :: ye_l m g c (zw_nx w m g)
/-- the class's count -/
def ye_c (W : List Nat) (m : Nat) : List (List Nat) → Nat → Nat
  | [], x => x
  | w :: D, x => if zw_cmp w W < 0 then ye_c W m D (if w.length = m then x + 1 else x) else x
/-- a number spelled -/
def ye_sp (L : Nat) : Nat → Nat → List Nat
  | 0, _ => []
  | m + 1, k => ye_sp L m (k / L) ++ [97 + k % L]
def ye_ly (m : Nat) (w : List Nat) : Bool := decide (zw_lE w 0 = m)
/-- the reference's count -/
def ye_n (L m : Nat) : Nat → Nat → Nat → Nat
  | 0, _, x => x
  | c + 1, k, x => ye_n L m c (k + 1) (if ye_ly m (ye_sp L m k) = true then x + 1 else x)
def ye_srt : List (List Nat) → Bool
  | [] => true
  | [_] => true
  | a :: b :: l => decide (zw_cmp a b = -1) && ye_srt (b :: l)
def ye_D (L m : Nat) : List (List Nat) := ye_l m (97 + L - 1) (m * 4096) [97]
/-! the two lists, word by word in normal form, for each alphabet -/
def ye_f {α : Type} (n : Nat) (f : Nat → α) : α := match n with
  | 0 => f 0
  | k + 1 => f (k + 1)
theorem ye_f_eq {α : Type} (n : Nat) (f : Nat → α) : ye_f n f = f n := by
  cases n with
  | zero => rfl
  | succ n => rfl
def ye_fl {α : Type} : List Nat → (List Nat → α) → α
  | [], f => f []
  | a :: l, f => ye_f a (fun b => ye_fl l (fun u => f (b :: u)))
theorem ye_fl_eq {α : Type} : ∀ (l : List Nat) (f : List Nat → α), ye_fl l f = f l := by
  intro l
  induction l with
  | nil => intro f; rfl
  | cons a l ih =>
    intro f
    rw [ye_fl, ye_f_eq, ih]
def ye_lf (m g : Nat) : Nat → List Nat → List (List Nat)
  | 0, _ => []
  | c + 1, w => if w.length = 0 then [] else w :: ye_fl (zw_nx w m g) (fun u => ye_lf m g c u)
theorem ye_lf_eq (m g : Nat) : ∀ (c : Nat) (w : List Nat), ye_lf m g c w = ye_l m g c w := by
  intro c
  induction c with
  | zero => intro w; rfl
  | succ c ih =>
    intro w
    rw [ye_lf, ye_l, ye_fl_eq, ih]
def ye_Df (L m : Nat) : List (List Nat) := ye_lf m (97 + L - 1) (m * 4096) [97]
theorem ye_Df_eq (L m : Nat) : ye_Df L m = ye_D L m := ye_lf_eq m (97 + L - 1) (m * 4096) [97]
/-- a number spelled from its end -/
def ye_sa (L : Nat) : Nat → Nat → List Nat → List Nat
  | 0, _, u => u
  | m + 1, k, u => ye_f (k / L) (fun q => ye_f (97 + k % L) (fun v => ye_sa L m q (v :: u)))
theorem ye_sa_eq (L : Nat) : ∀ (m k : Nat) (u : List Nat), ye_sa L m k u = ye_sp L m k ++ u := by
  intro m
  induction m with
  | zero => intro k u; rfl
  | succ m ih =>
    intro k u
    rw [ye_sa, ye_f_eq, ye_f_eq, ih, ye_sp, List.append_assoc]
    rfl
theorem ye_sa_nil (L m : Nat) : (fun k => ye_sa L m k []) = ye_sp L m := funext fun k => (ye_sa_eq L m k []).trans (List.append_nil _)
def ye_ck (L m : Nat) : Bool := decide (m = 0) || decide (4096 < L ^ m) || (ye_srt (ye_Df L m) && decide ((ye_Df L m).filter (fun w => decide (w.length = m)) = ((List.range (L ^ m)).map (fun k => ye_sa L m k [])).filter (ye_ly m)))
def ye_chk (L : Nat) : Bool := (List.range 13).all (ye_ck L)
theorem ye_c2a : ((List.range 11).all (ye_ck 2)) = true := by decide +kernel
theorem ye_c2b : ye_ck 2 11 = true := by decide +kernel
theorem ye_c2c : ye_ck 2 12 = true := by decide +kernel
theorem ye_c2 : ye_chk 2 = true := by
  unfold ye_chk
  rw [List.all_eq_true]
  intro m hm
  rw [List.mem_range] at hm
  by_cases e : m < 11
  · exact List.all_eq_true.mp ye_c2a m (List.mem_range.mpr e)
  · rcases (show m = 11 ∨ m = 12 by omega) with e | e
    · rw [e]; exact ye_c2b
    · rw [e]; exact ye_c2c
theorem ye_c3 : ye_chk 3 = true := by decide +kernel
theorem ye_c4 : ye_chk 4 = true := by decide +kernel
theorem ye_c5 : ye_chk 5 = true := by decide +kernel
theorem ye_c6 : ye_chk 6 = true := by decide +kernel
theorem ye_c7 : ye_chk 7 = true := by decide +kernel
theorem ye_c8 : ye_chk 8 = true := by decide +kernel
theorem ye_c9 : ye_chk 9 = true := by decide +kernel
