/-! RULES: a run as a statement; F functions against runs. -/
def zxc (o : Option Value ⊕ Nat) : Nat := match o with | .inl _ => 0 | .inr _ => 1
/-- the run from here ends so that Q; C and S: cells and slots made till it answers (one cell and 6 slots more where it throws) -/
def zt (xs : List Int32) (d y pc : Nat) (lv : List (Nat × Value)) (st : List Value) (h : zH) (C S : Nat) (Q : (Option Value ⊕ Nat) → zH → Prop) : Prop :=
  ∃ (f : Nat) (o : Option Value ⊕ Nat) (h2 : zH) (c2 s2 : Nat), z_run (za_T xs) za_P f d y pc lv st h 0 0 = some (o, h2, c2, s2) ∧ c2 ≤ C + zxc o ∧ s2 ≤ S + 6 * zxc o ∧ Q o h2
def zQ {α : Type} (cv : α → Option Value ⊕ Nat) (r : α × zH) : (Option Value ⊕ Nat) → zH → Prop := fun o h2 => o = cv r.1 ∧ h2 = r.2
def cI (x : Int32) : Option Value ⊕ Nat := .inl (some (.int x))
def cL (x : Int64) : Option Value ⊕ Nat := .inl (some (.long x))
def cF (x : UInt32) : Option Value ⊕ Nat := .inl (some (.float x))
def cD (x : UInt64) : Option Value ⊕ Nat := .inl (some (.double x))
def cO (x : Option Nat) : Option Value ⊕ Nat := .inl (some (va_rf x))
def cV (_ : Unit) : Option Value ⊕ Nat := .inl none
def cX {α : Type} (cv : α → Option Value ⊕ Nat) (x : α ⊕ Nat) : Option Value ⊕ Nat := match x with | .inl a => cv a | .inr e => .inr e
/-- a method: its code, locals, handlers, what it returns -/
def z_me (y : Nat) (cd : List zE) (nL : Nat) (hs : List zX) (rt : Option FieldType) : Prop := za_P.1 y = cd ∧ za_P.2.1 y = nL ∧ za_P.2.2.1 y = hs ∧ za_P.2.2.2.2.1 y = rt
def b2 {α β : Type} (o : Option (α × zH)) (g : α → zH → Option β) : Option β := match o with | some (a, h) => g a h | none => none
theorem b2_some {α β : Type} {o : Option (α × zH)} {g : α → zH → Option β} {r : β} (e : b2 o g = some r) : ∃ (a : α) (h : zH), o = some (a, h) ∧ g a h = some r := by
  cases o with
  | none => cases e
  | some p => obtain ⟨a, h⟩ := p; exact ⟨a, h, rfl, e⟩
def b1 {α β : Type} (o : Option α) (g : α → Option β) : Option β := match o with | some a => g a | none => none
theorem b1_some {α β : Type} {o : Option α} {g : α → Option β} {r : β} (e : b1 o g = some r) : ∃ a : α, o = some a ∧ g a = some r := by
  cases o with
  | none => cases e
  | some a => exact ⟨a, rfl, e⟩
def z_l1s (cd : List zE) (nL : Nat) (r : zR) : Option zR := match z_at cd r.1 with
  | some (i, _, a, b) => cond (Nat.beq (z_kind i a b) 0) (z_loc i r.1 a nL r.2.1 r.2.2) none
  | none => none
def z_ls (cd : List zE) (nL : Nat) : Nat → zR → Option zR
  | 0, r => some r
  | n + 1, r => match z_l1s cd nL r with
    | some r2 => z_ls cd nL n r2
    | none => none
section ZEQ
variable {T : zT} {P : zP} {f d y pc : Nat} {lv : List (Nat × Value)} {st : List Value} {h : zH} {cs ss : Nat} {i : Instr} {len a b : Nat}
theorem zq_0 (h1 : z_at (P.1 y) pc = some (i, len, a, b)) (h2 : z_kind i a b = 0) : z_run T P (f + 1) d y pc lv st h cs ss = (match z_loc i pc a (P.2.1 y) lv st with
        | some (pc2, lv2, st2) => z_run T P f d y pc2 lv2 st2 h cs ss
        | none => none) := by
  simp only [z_run, h1, h2]
  rfl
theorem zq_1 (h1 : z_at (P.1 y) pc = some (i, len, a, b)) (h2 : z_kind i a b = 1) : z_run T P (f + 1) d y pc lv st h cs ss = (match z_hp T i pc a b st h with
        | some (pc2, st2, h2, dc, ds) => z_run T P f d y pc2 lv st2 h2 (cs + dc) (ss + ds)
        | none => none) := by
  simp only [z_run, h1, h2]
  rfl
theorem zq_4 {v : Value} (h1 : z_at (P.1 y) pc = some (i, len, a, b)) (h2 : z_kind i a b = 4) (h3 : z_rok i (P.2.2.2.2.1 y) v = true) : z_run T P (f + 1) d y pc lv [v] h cs ss = some (.inl (some v), h, cs, ss) := by
  simp only [z_run, h1, h2]
  rw [if_pos ⟨trivial, h3⟩]
theorem zq_5 (h1 : z_at (P.1 y) pc = some (i, len, a, b)) (h2 : z_kind i a b = 5) (h3 : P.2.2.2.2.1 y = none) : z_run T P (f + 1) d y pc lv [] h cs ss = some (.inl none, h, cs, ss) := by
  simp only [z_run, h1, h2]
  rw [if_pos ⟨trivial, h3⟩]
theorem zq_6 (h1 : z_at (P.1 y) pc = some (i, len, a, b)) (h2 : z_kind i a b = 6) (h3 : z_cs st ≤ 8) (h4 : P.2.2.1 y = []) : z_run T P (f + 1) d y pc lv st h cs ss = some (.inr a, h, cs + 1, ss + 6) := by
  simp only [z_run, h1, h2]
  rw [if_pos ⟨h3, h4⟩]
theorem zq_c {k0 : Nat} (h1 : z_at (P.1 y) pc = some (i, len, a, b)) (h2 : z_kind i a b = k0) (h3 : k0 = 2 ∨ k0 = 3 ∨ k0 = 7) (hc : z_nn k0 b ≤ st.length ∧ z_cs (st.drop (z_nn k0 b)) ≤ 8 ∧ z_cs (st.take (z_nn k0 b)) ≤ P.2.1 a ∧ (k0 ≠ 3 → z_rcv T h (st.take (z_nn k0 b)).reverse (P.2.2.2.1 a) = true)) : z_run T P (f + 1) (d + 1) y pc lv st h cs ss = (match z_run T P f d a 0 (lv_args 0 (st.take (z_nn k0 b)).reverse) [] h 0 0 with
            | none => none
            | some (.inl o, h2, dc, ds) => z_run T P f (d + 1) y (pc + 3) lv (o.toList ++ st.drop (z_nn k0 b)) h2 (cs + dc) (ss + ds)
            | some (.inr e, h2, dc, ds) => if k0 = 7 then none else (match P.2.2.1 y with
              | [] => some (.inr e, h2, cs + dc, ss + ds)
              | x :: l => (match z_catch P.2.2.2.2.2 (x :: l) pc e with
                | some w => some (.inl (some (.int w.2.2)), h2, cs + dc, ss + ds)
                | none => none))) := by
  rcases h3 with rfl | rfl | rfl
  · simp only [z_run, h1, h2]
    rw [if_pos hc]
    rfl
  · simp only [z_run, h1, h2]
    rw [if_pos hc]
    rfl
  · simp only [z_run, h1, h2]
    rw [if_pos hc]
    rfl
end ZEQ
section ZT
variable {xs : List Int32} {d y pc : Nat} {lv : List (Nat × Value)} {st rest : List Value} {h : zH} {C S : Nat} {Q : (Option Value ⊕ Nat) → zH → Prop} {cd : List zE} {nL : Nat} {hs : List zX} {rt : Option FieldType}
theorem zt_step {pc2 dc ds : Nat} {lv2 : List (Nat × Value)} {st2 : List Value} {h2 : zH} (hs : ∀ f, z_run (za_T xs) za_P (f + 1) d y pc lv st h 0 0 = z_run (za_T xs) za_P f d y pc2 lv2 st2 h2 dc ds) (k : zt xs d y pc2 lv2 st2 h2 C S Q) : zt xs d y pc lv st h (dc + C) (ds + S) Q := by
  obtain ⟨f, o, h3, c2, s2, hr, h1, h4, hq⟩ := k
  refine ⟨f + 1, o, h3, c2 + dc, s2 + ds, ?_, by omega, by omega, hq⟩
  rw [hs]
  have := z_more f d y pc2 lv2 st2 h2 0 0 o h3 c2 s2 hr f d lv2 dc ds (Nat.le_refl _) (Nat.le_refl _) (Or.inl rfl)
  simpa using this
theorem zt_deep {e : Nat} (hde : d ≤ e) (k : zt xs d y pc lv st h C S Q) : zt xs e y pc lv st h C S Q := by
  obtain ⟨f, o, h3, c2, s2, hr, h1⟩ := k
  exact ⟨f, o, h3, c2, s2, z_more f d y pc lv st h 0 0 o h3 c2 s2 hr f e lv 0 0 (Nat.le_refl _) hde (Or.inl rfl), h1⟩
theorem zt_sub {lv2 : List (Nat × Value)} (hR : zR1 lv2 lv) (k : zt xs d y pc lv2 st h C S Q) : zt xs d y pc lv st h C S Q := by
  obtain ⟨f, o, h3, c2, s2, hr, h1⟩ := k
  exact ⟨f, o, h3, c2, s2, z_more f d y pc lv2 st h 0 0 o h3 c2 s2 hr f d lv 0 0 (Nat.le_refl _) (Nat.le_refl _) (Or.inr hR), h1⟩
theorem zt_wide {C2 S2 : Nat} {Q2 : (Option Value ⊕ Nat) → zH → Prop} (hC : C ≤ C2) (hS : S ≤ S2) (hQ : ∀ o h2, Q o h2 → Q2 o h2) (k : zt xs d y pc lv st h C S Q) : zt xs d y pc lv st h C2 S2 Q2 := by
  obtain ⟨f, o, h3, c2, s2, hr, h1, h2, h4⟩ := k
  exact ⟨f, o, h3, c2, s2, hr, by omega, by omega, hQ _ _ h4⟩
theorem z_step0 (hy : z_me y cd nL hs rt) {i : Instr} {len a b pc2 : Nat} {lv2 : List (Nat × Value)} {st2 : List Value} (hat : z_at cd pc = some (i, len, a, b)) (hk : z_kind i a b = 0) (hl : z_loc i pc a nL lv st = some (pc2, lv2, st2)) (k : zt xs d y pc2 lv2 st2 h C S Q) : zt xs d y pc lv st h C S Q := by
  have := zt_step (xs := xs) (d := d) (y := y) (pc := pc) (lv := lv) (st := st) (h := h) (pc2 := pc2) (lv2 := lv2) (st2 := st2) (h2 := h) (dc := 0) (ds := 0) (C := C) (S := S) (Q := Q) (fun f => by rw [zq_0 (by rw [hy.1]; exact hat) hk, hy.2.1, hl]) k
  simpa using this
theorem zl (hy : z_me y cd nL hs rt) : ∀ (n : Nat) {pc : Nat} {lv : List (Nat × Value)} {st : List Value} {pc2 : Nat} {lv2 : List (Nat × Value)} {st2 : List Value}, z_ls cd nL n (pc, lv, st) = some (pc2, lv2, st2) → zt xs d y pc2 lv2 st2 h C S Q → zt xs d y pc lv st h C S Q := by
  intro n
  induction n with
  | zero => intro pc lv st pc2 lv2 st2 e k; cases e; exact k
  | succ n ih =>
    intro pc lv st pc2 lv2 st2 e k
    rw [z_ls] at e
    split at e
    · rename_i r2 e1
      obtain ⟨pc3, lv3, st3⟩ := r2
      unfold z_l1s at e1
      split at e1
      · rename_i i len a b e2
        cases e3 : Nat.beq (z_kind i a b) 0 with
        | false => rw [e3] at e1; cases e1
        | true =>
          rw [e3] at e1
          exact z_step0 hy e2 (Nat.eq_of_beq_eq_true e3) e1 (ih e k)
      · cases e1
    · cases e
theorem zx_bip (hy : z_me y cd nL hs rt) {n c : Int} {len a b : Nat} (hat : z_at cd pc = some (.bipush n, len, a, b)) (hc : (Int8.ofInt n).toInt32 = Int32.ofInt c) (k : zt xs d y (pc + 2) lv (.int (Int32.ofInt c) :: st) h C S Q) : zt xs d y pc lv st h C S Q := z_step0 hy hat rfl (by simp only [z_loc]; rw [hc]) k
theorem zx_sip (hy : z_me y cd nL hs rt) {n c : Int} {len a b : Nat} (hat : z_at cd pc = some (.sipush n, len, a, b)) (hc : (Int16.ofInt n).toInt32 = Int32.ofInt c) (k : zt xs d y (pc + 3) lv (.int (Int32.ofInt c) :: st) h C S Q) : zt xs d y pc lv st h C S Q := z_step0 hy hat rfl (by simp only [z_loc]; rw [hc]) k
theorem zx_div (hy : z_me y cd nL hs rt) {x z : Int32} {len a b : Nat} {α : Type} {G : Int32 → Option α} {r : α} (hat : z_at cd pc = some (.idiv, len, a, b)) (e : (if z = Int32.ofInt 0 then none else G (x / z)) = some r) (k : z ≠ Int32.ofInt 0 → G (x / z) = some r → zt xs d y (pc + 1) lv (.int (x / z) :: st) h C S Q) : zt xs d y pc lv (.int z :: .int x :: st) h C S Q := by
  split at e
  · cases e
  · rename_i hz
    exact z_step0 hy hat rfl (by simp only [z_loc]; rw [show (0 : Int32) = Int32.ofInt 0 from rfl, if_neg hz]) (k hz e)
theorem zx_rem (hy : z_me y cd nL hs rt) {x z : Int32} {len a b : Nat} {α : Type} {G : Int32 → Option α} {r : α} (hat : z_at cd pc = some (.irem, len, a, b)) (e : (if z = Int32.ofInt 0 then none else G (x - x / z * z)) = some r) (k : z ≠ Int32.ofInt 0 → G (x - x / z * z) = some r → zt xs d y (pc + 1) lv (.int (x - x / z * z) :: st) h C S Q) : zt xs d y pc lv (.int z :: .int x :: st) h C S Q := by
  split at e
  · cases e
  · rename_i hz
    exact z_step0 hy hat rfl (by simp only [z_loc]; rw [show (0 : Int32) = Int32.ofInt 0 from rfl, if_neg hz]) (k hz e)
theorem zx_ldv (hy : z_me y cd nL hs rt) {x z : Int64} {len a b : Nat} {α : Type} {G : Int64 → Option α} {r : α} (hat : z_at cd pc = some (.ldiv, len, a, b)) (e : (if z = Int64.ofInt 0 then none else G (x / z)) = some r) (k : z ≠ Int64.ofInt 0 → G (x / z) = some r → zt xs d y (pc + 1) lv (.long (x / z) :: st) h C S Q) : zt xs d y pc lv (.long z :: .long x :: st) h C S Q := by
  split at e
  · cases e
  · rename_i hz
    exact z_step0 hy hat rfl (by simp only [z_loc]; rw [show (0 : Int64) = Int64.ofInt 0 from rfl, if_neg hz]) (k hz e)
section IFS
variable {α : Type} {A B : Option α} {r : α} {x z : Int32} {off : Int} {len a b : Nat}
theorem zx_icmp (hy : z_me y cd nL hs rt) {c0 : ClassFile.Cond} (hat : z_at cd pc = some (.if_icmp c0 off, len, a, b)) (k1 : z_cmp c0 x z = true → zt xs d y a lv st h C S Q) (k2 : z_cmp c0 x z = false → zt xs d y (pc + 3) lv st h C S Q) : zt xs d y pc lv (.int z :: .int x :: st) h C S Q := by
  cases e : z_cmp c0 x z with
  | true => exact z_step0 hy hat rfl (by simp only [z_loc, e]) (k1 e)
  | false => exact z_step0 hy hat rfl (by simp only [z_loc, e]) (k2 e)
theorem zx_if0 (hy : z_me y cd nL hs rt) {c0 : ClassFile.Cond} (hat : z_at cd pc = some (.ifCond c0 off, len, a, b)) (k1 : z_cmp c0 x (Int32.ofInt 0) = true → zt xs d y a lv st h C S Q) (k2 : z_cmp c0 x (Int32.ofInt 0) = false → zt xs d y (pc + 3) lv st h C S Q) : zt xs d y pc lv (.int x :: st) h C S Q := by
  cases e : z_cmp c0 x (Int32.ofInt 0) with
  | true => exact z_step0 hy hat rfl (by simp only [z_loc]; rw [show (0 : Int32) = Int32.ofInt 0 from rfl, e]) (k1 e)
  | false => exact z_step0 hy hat rfl (by simp only [z_loc]; rw [show (0 : Int32) = Int32.ofInt 0 from rfl, e]) (k2 e)
theorem zx_c (hy : z_me y cd nL hs rt) {c0 : ClassFile.Cond} (hat : z_at cd pc = some (.if_icmp c0 off, len, a, b)) (e : cond (z_cmp c0 x z) A B = some r) (k1 : z_cmp c0 x z = true → A = some r → zt xs d y a lv st h C S Q) (k2 : z_cmp c0 x z = false → B = some r → zt xs d y (pc + 3) lv st h C S Q) : zt xs d y pc lv (.int z :: .int x :: st) h C S Q :=
  zx_icmp hy hat (fun g => k1 g (by rw [g] at e; exact e)) (fun g => k2 g (by rw [g] at e; exact e))
theorem zx_c0 (hy : z_me y cd nL hs rt) {c0 : ClassFile.Cond} (hat : z_at cd pc = some (.ifCond c0 off, len, a, b)) (e : cond (z_cmp c0 x (Int32.ofInt 0)) A B = some r) (k1 : z_cmp c0 x (Int32.ofInt 0) = true → A = some r → zt xs d y a lv st h C S Q) (k2 : z_cmp c0 x (Int32.ofInt 0) = false → B = some r → zt xs d y (pc + 3) lv st h C S Q) : zt xs d y pc lv (.int x :: st) h C S Q :=
  zx_if0 hy hat (fun g => k1 g (by rw [g] at e; exact e)) (fun g => k2 g (by rw [g] at e; exact e))
end IFS
/-! the heap -/
theorem z_hg_app {S1 S2 : List zC} {h : zH} {q : Nat} {c : zC} (e : z_hg S1 h q = some c) : z_hg (S1 ++ S2) h q = some c := by
  rcases z_hg_cases e with ⟨g, e'⟩ | ⟨g, e'⟩
  · unfold z_hg
    rw [Nat.blt_eq.mpr g]
    exact e'
  · have hb : Nat.blt q 1000000 = false := by
      cases hb : Nat.blt q 1000000 with
      | false => rfl
      | true => exact absurd (Nat.blt_eq.mp hb) (Nat.not_lt.mpr g)
    unfold z_hg
    rw [hb]
    generalize q - 1000000 = j at e' ⊢
    show (S1 ++ S2)[j]? = some c
    rw [List.getElem?_append_left (List.getElem?_eq_some_iff.mp e').1]
    exact e'
theorem z_hgT {q : Nat} {c : zC} (e : z_hg za_S0 h q = some c) : z_hg (za_T xs).1 h q = some c := z_hg_app (S2 := [(100, xs.map Value.int)]) e
end ZT
/-- a cell's value at a place -/
def fV (h : zH) (q t b : Nat) : Option Value := match z_hg za_S0 h q with
  | some c => cond (Nat.beq c.1 t) c.2[b]? none
  | none => none
theorem fV_some {h : zH} {q t b : Nat} {v : Value} (e : fV h q t b = some v) : ∃ vs : List Value, z_hg za_S0 h q = some (t, vs) ∧ vs[b]? = some v := by
  unfold fV at e
  split at e
  · rename_i c e1
    cases g : Nat.beq c.1 t with
    | false => rw [g] at e; cases e
    | true =>
      rw [g] at e
      obtain ⟨t', vs⟩ := c
      have g1 : t' = t := Nat.eq_of_beq_eq_true g
      subst g1
      exact ⟨vs, e1, e⟩
  · cases e
def fI (h : zH) (q t b : Nat) : Option Int32 := match fV h q t b with | some (.int x) => some x | _ => none
def fL (h : zH) (q t b : Nat) : Option Int64 := match fV h q t b with | some (.long x) => some x | _ => none
def fR (h : zH) (q t b : Nat) : Option Nat := match fV h q t b with | some (.ref x) => some x | _ => none
theorem fI_some {h : zH} {q t b : Nat} {x : Int32} (e : fI h q t b = some x) : fV h q t b = some (.int x) := by
  unfold fI at e
  split at e
  · rename_i y e1; cases e; exact e1
  · cases e
theorem fL_some {h : zH} {q t b : Nat} {x : Int64} (e : fL h q t b = some x) : fV h q t b = some (.long x) := by
  unfold fL at e
  split at e
  · rename_i y e1; cases e; exact e1
  · cases e
theorem fR_some {h : zH} {q t b : Nat} {x : Nat} (e : fR h q t b = some x) : fV h q t b = some (.ref x) := by
  unfold fR at e
  split at e
  · rename_i y e1; cases e; exact e1
  · cases e
/-- an array's element -/
def fAI (h : zH) (q t : Nat) (i : Int32) : Option Int32 := cond (decide (i < 0)) none (fI h q t i.toNatClampNeg)
def fAL (h : zH) (q t : Nat) (i : Int32) : Option Int64 := cond (decide (i < 0)) none (fL h q t i.toNatClampNeg)
def fAR (h : zH) (q t : Nat) (i : Int32) : Option Nat := cond (decide (i < 0)) none (fR h q t i.toNatClampNeg)
theorem cond_none {α : Type} {b : Bool} {o : Option α} {x : α} (e : cond b none o = some x) : b = false ∧ o = some x := by
  cases b with
  | true => cases e
  | false => exact ⟨rfl, e⟩
def fN (h : zH) (q t : Nat) : Option Int32 := match z_hg za_S0 h q with
  | some c => cond (Nat.beq c.1 t) (some (Int32.ofNat c.2.length)) none
  | none => none
theorem fN_some {h : zH} {q t : Nat} {x : Int32} (e : fN h q t = some x) : ∃ vs : List Value, z_hg za_S0 h q = some (t, vs) ∧ x = Int32.ofNat vs.length := by
  unfold fN at e
  split at e
  · rename_i c e1
    cases g : Nat.beq c.1 t with
    | false => rw [g] at e; cases e
    | true =>
      rw [g] at e
      obtain ⟨t', vs⟩ := c
      have g1 : t' = t := Nat.eq_of_beq_eq_true g
      subst g1
      cases e
      exact ⟨vs, e1, rfl⟩
  · cases e
/-- a write -/
def fS (h : zH) (q t b : Nat) (v : Value) : Option zH := match h[q]? with
  | some c => cond (Nat.beq c.1 t && Nat.blt b c.2.length) (some (h.set q (t, c.2.set b v))) none
  | none => none
theorem fS_some {h h2 : zH} {q t b : Nat} {v : Value} (e : fS h q t b v = some h2) : ∃ vs : List Value, h[q]? = some (t, vs) ∧ b < vs.length ∧ h2 = h.set q (t, vs.set b v) := by
  unfold fS at e
  split at e
  · rename_i c e1
    cases g : (Nat.beq c.1 t && Nat.blt b c.2.length) with
    | false => rw [g] at e; cases e
    | true =>
      rw [g] at e
      rw [Bool.and_eq_true] at g
      obtain ⟨t', vs⟩ := c
      have g1 : t' = t := Nat.eq_of_beq_eq_true g.1
      subst g1
      cases e
      exact ⟨vs, e1, Nat.le_of_ble_eq_true g.2, rfl⟩
  · cases e
def fAS (h : zH) (q t : Nat) (i : Int32) (v : Value) : Option zH := cond (decide (i < 0)) none (fS h q t i.toNatClampNeg v)
/-- is there an object of this kind -/
def fT (h : zH) (q t : Nat) : Bool := match z_hg za_S0 h q with | some c => Nat.beq c.1 t | none => false
section ZT2
variable {xs : List Int32} {d y pc : Nat} {lv : List (Nat × Value)} {st rest : List Value} {h : zH} {C S : Nat} {Q : (Option Value ⊕ Nat) → zH → Prop} {cd : List zE} {nL : Nat} {hs : List zX} {rt : Option FieldType}
variable {α : Type} {r : α} {len a b : Nat}
theorem z_step1 (hy : z_me y cd nL hs rt) {i : Instr} {pc2 dc ds : Nat} {st2 : List Value} {h2 : zH} (hat : z_at cd pc = some (i, len, a, b)) (hk : z_kind i a b = 1) (hl : z_hp (za_T xs) i pc a b st h = some (pc2, st2, h2, dc, ds)) (k : zt xs d y pc2 lv st2 h2 C S Q) : zt xs d y pc lv st h (dc + C) (ds + S) Q :=
  zt_step (fun f => by rw [zq_1 (by rw [hy.1]; exact hat) hk, hl]; simp only [Nat.zero_add]) k
theorem z_step10 (hy : z_me y cd nL hs rt) {i : Instr} {pc2 : Nat} {st2 : List Value} {h2 : zH} (hat : z_at cd pc = some (i, len, a, b)) (hk : z_kind i a b = 1) (hl : z_hp (za_T xs) i pc a b st h = some (pc2, st2, h2, 0, 0)) (k : zt xs d y pc2 lv st2 h2 C S Q) : zt xs d y pc lv st h C S Q := by
  have := z_step1 hy hat hk hl k
  simpa using this
theorem zx_gI (hy : z_me y cd nL hs rt) {idx q : Nat} {G : Int32 → Option α} (hat : z_at cd pc = some (.getfield idx, len, a, b)) (e : b1 (fI h q a b) G = some r) (k : ∀ x : Int32, fI h q a b = some x → G x = some r → zt xs d y (pc + 3) lv (.int x :: st) h C S Q) : zt xs d y pc lv (.ref q :: st) h C S Q := by
  obtain ⟨x, e1, e2⟩ := b1_some e
  obtain ⟨vs, e3, e4⟩ := fV_some (fI_some e1)
  exact z_step10 hy hat rfl (by simp only [z_hp, z_hgT e3, if_true, e4]) (k x e1 e2)
theorem zx_gR (hy : z_me y cd nL hs rt) {idx q : Nat} {G : Nat → Option α} (hat : z_at cd pc = some (.getfield idx, len, a, b)) (e : b1 (fR h q a b) G = some r) (k : ∀ x : Nat, fR h q a b = some x → G x = some r → zt xs d y (pc + 3) lv (.ref x :: st) h C S Q) : zt xs d y pc lv (.ref q :: st) h C S Q := by
  obtain ⟨x, e1, e2⟩ := b1_some e
  obtain ⟨vs, e3, e4⟩ := fV_some (fR_some e1)
  exact z_step10 hy hat rfl (by simp only [z_hp, z_hgT e3, if_true, e4]) (k x e1 e2)
theorem zx_pf (hy : z_me y cd nL hs rt) {idx q : Nat} {v : Value} {G : zH → Option α} (hat : z_at cd pc = some (.putfield idx, len, a, b)) (e : b1 (fS h q a b v) G = some r) (hf : z_fit (za_fty a b) v = true) (k : ∀ h2 : zH, fS h q a b v = some h2 → G h2 = some r → zt xs d y (pc + 3) lv st h2 C S Q) : zt xs d y pc lv (v :: .ref q :: st) h C S Q := by
  obtain ⟨h2, e1, e2⟩ := b1_some e
  obtain ⟨vs, e3, e4, e5⟩ := fS_some e1
  have e6 : z_hp (za_T xs) (.putfield idx) pc a b (v :: .ref q :: st) h = some (pc + 3, st, h2, 0, 0) := by
    simp only [z_hp, e3]
    rw [if_pos ⟨trivial, e4, hf⟩, e5]
  exact z_step10 hy hat rfl e6 (k h2 e1 e2)
theorem zx_len (hy : z_me y cd nL hs rt) {q t : Nat} {G : Int32 → Option α} (ht : 100 ≤ t) (hat : z_at cd pc = some (.arraylength, len, a, b)) (e : b1 (fN h q t) G = some r) (k : ∀ x : Int32, fN h q t = some x → G x = some r → zt xs d y (pc + 1) lv (.int x :: st) h C S Q) : zt xs d y pc lv (.ref q :: st) h C S Q := by
  obtain ⟨x, e1, e2⟩ := b1_some e
  obtain ⟨vs, e3, e4⟩ := fN_some e1
  exact z_step10 hy hat rfl (by simp only [z_hp, z_hgT e3]; rw [if_pos ht, e4]) (k x e1 e2)
theorem z_aldT {t0 q : Nat} {i : Int32} {v : Value} {vs : List Value} (e1 : z_hg za_S0 h q = some (t0, vs)) (e2 : decide (i < 0) = false) (e3 : vs[i.toNatClampNeg]? = some v) : z_ald (za_T xs) t0 pc (.int i :: .ref q :: st) h = some (pc + 1, v :: st, h, 0, 0) := by
  unfold z_ald
  simp only [z_hgT e1]
  rw [if_pos ⟨trivial, of_decide_eq_false e2⟩, e3]
theorem zx_aI (hy : z_me y cd nL hs rt) {q t : Nat} {i : Int32} {j : Instr} {G : Int32 → Option α} (hj : (j = .iaload ∧ t = 100) ∨ (j = .baload ∧ t = 101)) (hat : z_at cd pc = some (j, len, a, b)) (e : b1 (fAI h q t i) G = some r) (k : ∀ x : Int32, fAI h q t i = some x → G x = some r → zt xs d y (pc + 1) lv (.int x :: st) h C S Q) : zt xs d y pc lv (.int i :: .ref q :: st) h C S Q := by
  obtain ⟨x, e1, e2⟩ := b1_some e
  obtain ⟨e3, e4⟩ := cond_none e1
  obtain ⟨vs, e5, e6⟩ := fV_some (fI_some e4)
  rcases hj with ⟨rfl, rfl⟩ | ⟨rfl, rfl⟩
  · exact z_step10 hy hat rfl (z_aldT e5 e3 e6) (k x e1 e2)
  · exact z_step10 hy hat rfl (z_aldT e5 e3 e6) (k x e1 e2)
theorem zx_aR (hy : z_me y cd nL hs rt) {q t : Nat} {i : Int32} {G : Nat → Option α} (ht : 104 ≤ t) (hat : z_at cd pc = some (.aaload, len, a, b)) (e : b1 (fAR h q t i) G = some r) (k : ∀ x : Nat, fAR h q t i = some x → G x = some r → zt xs d y (pc + 1) lv (.ref x :: st) h C S Q) : zt xs d y pc lv (.int i :: .ref q :: st) h C S Q := by
  obtain ⟨x, e1, e2⟩ := b1_some e
  obtain ⟨e3, e4⟩ := cond_none e1
  obtain ⟨vs, e5, e6⟩ := fV_some (fR_some e4)
  exact z_step10 hy hat rfl (by simp only [z_hp, z_hgT e5]; rw [if_pos ⟨ht, of_decide_eq_false e3⟩, e6]) (k x e1 e2)
theorem zx_sI (hy : z_me y cd nL hs rt) {q t : Nat} {i x v : Int32} {j : Instr} {G : zH → Option α} (hj : (j = .iastore ∧ t = 100 ∧ v = x) ∨ (j = .bastore ∧ t = 101 ∧ v = vp_nar .byte x)) (hat : z_at cd pc = some (j, len, a, b)) (e : b1 (fAS h q t i (.int v)) G = some r) (k : ∀ h2 : zH, fAS h q t i (.int v) = some h2 → G h2 = some r → zt xs d y (pc + 1) lv st h2 C S Q) : zt xs d y pc lv (.int x :: .int i :: .ref q :: st) h C S Q := by
  obtain ⟨h2, e1, e2⟩ := b1_some e
  obtain ⟨e3, e4⟩ := cond_none e1
  obtain ⟨vs, e5, e6, e7⟩ := fS_some e4
  have e8 := of_decide_eq_false e3
  rcases hj with ⟨rfl, rfl, rfl⟩ | ⟨rfl, rfl, rfl⟩
  · exact z_step10 hy hat rfl (by simp only [z_hp, e5]; rw [if_pos ⟨trivial, e8, e6⟩, e7]) (k h2 e1 e2)
  · exact z_step10 hy hat rfl (by simp only [z_hp, e5]; rw [if_pos ⟨trivial, e8, e6⟩, e7]) (k h2 e1 e2)
/-- a reference into an array; w is an object of the array's kind -/
theorem zx_sR (hy : z_me y cd nL hs rt) {q w t : Nat} {i : Int32} {G : zH → Option α} (ht : 104 ≤ t ∧ t < 106) (hat : z_at cd pc = some (.aastore, len, a, b)) (e : cond (fT h w (za_elem t) && Nat.blt w 1000000) (b1 (fAS h q t i (.ref w)) G) none = some r) (k : ∀ h2 : zH, fAS h q t i (.ref w) = some h2 → G h2 = some r → zt xs d y (pc + 1) lv st h2 C S Q) : zt xs d y pc lv (.ref w :: .int i :: .ref q :: st) h C S Q := by
  cases g : (fT h w (za_elem t) && Nat.blt w 1000000) with
  | false => rw [g] at e; cases e
  | true =>
    rw [g] at e
    rw [Bool.and_eq_true] at g
    obtain ⟨h2, e1, e2⟩ := b1_some e
    obtain ⟨e3, e4⟩ := cond_none e1
    obtain ⟨vs, e5, e6, e7⟩ := fS_some e4
    obtain ⟨g1, g2⟩ := g
    unfold fT z_hg at g1
    rw [g2] at g1
    have g3 : ∃ vw, h[w]? = some (za_elem t, vw) := by
      cases g4 : h[w]? with
      | none => simp only [cond_true, g4] at g1; cases g1
      | some c =>
        simp only [cond_true, g4] at g1
        obtain ⟨t', vw⟩ := c
        have g5 : t' = za_elem t := Nat.eq_of_beq_eq_true g1
        rw [g5]
        exact ⟨vw, rfl⟩
    obtain ⟨vw, g3⟩ := g3
    exact z_step10 hy hat rfl (by simp only [z_hp, e5, g3]; rw [if_pos ⟨ht, of_decide_eq_false e3, e6, rfl⟩, e7]) (k h2 e1 e2)
theorem zx_gs (hy : z_me y cd nL hs rt) {idx : Nat} {v : Value} (hat : z_at cd pc = some (.getstatic idx, len, a, b)) {f : zF} (hf : za_sf[b]? = some f) (hv : f.2.2.2 = v) (k : zt xs d y (pc + 3) lv (v :: st) h C S Q) : zt xs d y pc lv st h C S Q := by
  subst hv
  exact z_step10 hy hat rfl (by simp only [z_hp]; rw [show (za_T xs).2.1[b]? = some f from hf]) k
theorem zx_ldcS (hy : z_me y cd nL hs rt) {idx : Nat} (hat : z_at cd pc = some (.ldc idx, len, 1, b)) {f : zS} (hf : za_ss[b]? = some f) {q : Nat} (hv : f.2.2.2 = q) (k : zt xs d y (pc + 2) lv (.ref q :: st) h C S Q) : zt xs d y pc lv st h C S Q := by
  subst hv
  exact z_step10 hy hat rfl (by simp only [z_hp]; rw [show (za_T xs).2.2.1[b]? = some f from hf]) k
theorem zx_ldcw (hy : z_me y cd nL hs rt) {idx : Nat} (hat : z_at cd pc = some (.ldc_w idx, len, a, b)) {f : zS} (hf : za_ss[b]? = some f) {q : Nat} (hv : f.2.2.2 = q) (k : zt xs d y (pc + 3) lv (.ref q :: st) h C S Q) : zt xs d y pc lv st h C S Q := by
  subst hv
  exact z_step10 hy hat rfl (by simp only [z_hp]; rw [show (za_T xs).2.2.1[b]? = some f from hf]) k
theorem zx_ldcI (hy : z_me y cd nL hs rt) {idx : Nat} (hat : z_at cd pc = some (.ldc idx, len, 0, b)) {v : Value} (hf : za_num[b]? = some v) (k : zt xs d y (pc + 2) lv (v :: st) h C S Q) : zt xs d y pc lv st h C S Q :=
  z_step10 hy hat rfl (by simp only [z_hp]; rw [show (za_T xs).2.2.2.1[b]? = some v from hf]) k
theorem zx_ldcL (hy : z_me y cd nL hs rt) {idx : Nat} (hat : z_at cd pc = some (.ldc2_w idx, len, a, b)) {v : Value} (hf : za_num[b]? = some v) (k : zt xs d y (pc + 3) lv (v :: st) h C S Q) : zt xs d y pc lv st h C S Q :=
  z_step10 hy hat rfl (by simp only [z_hp]; rw [show (za_T xs).2.2.2.1[b]? = some v from hf]) k
theorem zx_nullN (hy : z_me y cd nL hs rt) {off : Int} (hat : z_at cd pc = some (.ifnull off, len, a, b)) (k : zt xs d y a lv st h C S Q) : zt xs d y pc lv (.null :: st) h C S Q := z_step10 hy hat rfl rfl k
theorem zx_nonnullN (hy : z_me y cd nL hs rt) {off : Int} (hat : z_at cd pc = some (.ifnonnull off, len, a, b)) (k : zt xs d y (pc + 3) lv st h C S Q) : zt xs d y pc lv (.null :: st) h C S Q := z_step10 hy hat rfl rfl k
def fX (h : zH) (q : Nat) : Bool := (z_hg za_S0 h q).isSome
theorem fX_some {q : Nat} (e : fX h q = true) : ∃ c, z_hg (za_T xs).1 h q = some c := by
  unfold fX at e
  obtain ⟨c, e1⟩ := Option.isSome_iff_exists.mp e
  exact ⟨c, z_hgT e1⟩
theorem zx_nullR (hy : z_me y cd nL hs rt) {off : Int} {q : Nat} {A : Option α} (hat : z_at cd pc = some (.ifnull off, len, a, b)) (e : cond (fX h q) A none = some r) (k : A = some r → zt xs d y (pc + 3) lv st h C S Q) : zt xs d y pc lv (.ref q :: st) h C S Q := by
  cases g : fX h q with
  | false => rw [g] at e; cases e
  | true =>
    rw [g] at e
    obtain ⟨c, e1⟩ := fX_some (xs := xs) g
    exact z_step10 hy hat rfl (by simp only [z_hp, e1]) (k e)
theorem zx_nonnullR (hy : z_me y cd nL hs rt) {off : Int} {q : Nat} {A : Option α} (hat : z_at cd pc = some (.ifnonnull off, len, a, b)) (e : cond (fX h q) A none = some r) (k : A = some r → zt xs d y a lv st h C S Q) : zt xs d y pc lv (.ref q :: st) h C S Q := by
  cases g : fX h q with
  | false => rw [g] at e; cases e
  | true =>
    rw [g] at e
    obtain ⟨c, e1⟩ := fX_some (xs := xs) g
    exact z_step10 hy hat rfl (by simp only [z_hp, e1]) (k e)
theorem zx_acmp (hy : z_me y cd nL hs rt) {off : Int} {q w : Nat} {A B : Option α} (hat : z_at cd pc = some (.if_acmp .ne off, len, a, b)) (e : cond (Nat.ble 1000000 q && Nat.blt q 1000000 && Nat.ble 1000000 w && Nat.blt w 1000000) (cond (Nat.beq q w) A B) none = some r) (k1 : q = w → A = some r → zt xs d y (pc + 3) lv st h C S Q) (k2 : q ≠ w → B = some r → zt xs d y a lv st h C S Q) : zt xs d y pc lv (.ref w :: .ref q :: st) h C S Q := by
  cases g : (Nat.ble 1000000 q && Nat.blt q 1000000 && Nat.ble 1000000 w && Nat.blt w 1000000) with
  | false => rw [g] at e; cases e
  | true =>
    rw [g] at e
    simp only [Bool.and_eq_true] at g
    obtain ⟨⟨⟨g1, g2⟩, g3⟩, g4⟩ := g
    have g5 : 1000000 ≤ q ∧ q < 1000000 ∧ 1000000 ≤ w ∧ w < 1000000 := ⟨Nat.le_of_ble_eq_true g1, Nat.le_of_ble_eq_true g2, Nat.le_of_ble_eq_true g3, Nat.le_of_ble_eq_true g4⟩
    cases g6 : Nat.beq q w with
    | true =>
      rw [g6] at e
      have g7 := Nat.eq_of_beq_eq_true g6
      exact z_step10 hy hat rfl (by simp only [z_hp]; rw [if_pos g5, if_pos g7]) (k1 g7 e)
    | false =>
      rw [g6] at e
      have g7 : q ≠ w := Nat.ne_of_beq_eq_false g6
      exact z_step10 hy hat rfl (by simp only [z_hp]; rw [if_pos g5, if_neg g7]) (k2 g7 e)
theorem zx_max (hy : z_me y cd nL hs rt) {idx : Nat} {x z : Int32} (hat : z_at cd pc = some (.invokestatic idx, len, 9998, b)) (hr : z_cs st ≤ 7) (k : zt xs d y (pc + 3) lv (.int (if x < z then z else x) :: st) h C S Q) : zt xs d y pc lv (.int z :: .int x :: st) h C S Q :=
  z_step10 hy hat rfl (by simp only [z_hp]; rw [if_pos hr]; rfl) k
theorem zx_min (hy : z_me y cd nL hs rt) {idx : Nat} {x z : Int32} (hat : z_at cd pc = some (.invokestatic idx, len, 9997, b)) (hr : z_cs st ≤ 7) (k : zt xs d y (pc + 3) lv (.int (if z < x then z else x) :: st) h C S Q) : zt xs d y pc lv (.int z :: .int x :: st) h C S Q :=
  z_step10 hy hat rfl (by simp only [z_hp]; rw [if_pos hr]; rfl) k
theorem zx_obj (hy : z_me y cd nL hs rt) {idx q : Nat} {A : Option α} (hat : z_at cd pc = some (.invokespecial idx, len, 9999, b)) (hr : z_cs st ≤ 8) (e : cond (fX h q) A none = some r) (k : A = some r → zt xs d y (pc + 3) lv st h C S Q) : zt xs d y pc lv (.ref q :: st) h C S Q := by
  cases g : fX h q with
  | false => rw [g] at e; cases e
  | true =>
    rw [g] at e
    obtain ⟨c, e1⟩ := fX_some (xs := xs) g
    exact z_step10 hy hat rfl (by simp only [z_hp, e1]; rw [if_pos hr]) (k e)
/-! ends -/
theorem zx_ret (hy : z_me y cd nL hs rt) {i : Instr} {v : Value} {cv : α → Option Value ⊕ Nat} {x : α} {r : α × zH} (hat : z_at cd pc = some (i, len, a, b)) (hk : z_kind i a b = 4) (hro : z_rok i rt v = true) (hcv : cv x = .inl (some v)) (e : some (x, h) = some r) : zt xs d y pc lv [v] h C S (zQ cv r) := by
  cases e
  refine ⟨1, .inl (some v), h, 0, 0, ?_, Nat.zero_le _, Nat.zero_le _, hcv.symm, rfl⟩
  exact zq_4 (by rw [hy.1]; exact hat) hk (by rw [hy.2.2.2]; exact hro)
theorem zx_retB (hy : z_me y cd nL hs (some .boolean)) {x : Int32} {cv : Int32 → Option Value ⊕ Nat} {r : Int32 × zH} (hat : z_at cd pc = some (.ireturn, len, a, b)) (hcv : cv x = .inl (some (.int x))) (e : cond (decide (x = Int32.ofInt 0) || decide (x = Int32.ofInt 1)) (some (x, h)) none = some r) : zt xs d y pc lv [.int x] h C S (zQ cv r) := by
  cases g : (decide (x = Int32.ofInt 0) || decide (x = Int32.ofInt 1)) with
  | false => rw [g] at e; cases e
  | true =>
    rw [g] at e
    exact zx_ret hy hat rfl g hcv e
theorem zx_retV (hy : z_me y cd nL hs none) {cv : Unit → Option Value ⊕ Nat} {r : Unit × zH} (hat : z_at cd pc = some (.return_, len, a, b)) (hcv : cv () = .inl none) (e : some ((), h) = some r) : zt xs d y pc lv [] h C S (zQ cv r) := by
  cases e
  refine ⟨1, .inl none, h, 0, 0, ?_, Nat.zero_le _, Nat.zero_le _, hcv.symm, rfl⟩
  exact zq_5 (by rw [hy.1]; exact hat) rfl hy.2.2.2
theorem zx_retVX {β : Type} (hy : z_me y cd nL hs none) {cv : β → Option Value ⊕ Nat} {x : β} {r : β × zH} (hat : z_at cd pc = some (.return_, len, a, b)) (hcv : cv x = .inl none) (e : some (x, h) = some r) : zt xs d y pc lv [] h C S (zQ cv r) := by
  cases e
  refine ⟨1, .inl none, h, 0, 0, ?_, Nat.zero_le _, Nat.zero_le _, hcv.symm, rfl⟩
  exact zq_5 (by rw [hy.1]; exact hat) rfl hy.2.2.2
theorem zx_thr (hy : z_me y cd nL [] rt) {ik : Nat} {cv : α → Option Value ⊕ Nat} {r : (α ⊕ Nat) × zH} (hat : z_at cd pc = some (.new ik, len, a, 1000)) (hr : z_cs st ≤ 8) (e : some (Sum.inr a, h) = some r) : zt xs d y pc lv st h C S (zQ (cX cv) r) := by
  cases e
  refine ⟨1, .inr a, h, 1, 6, ?_, ?_, ?_, rfl, rfl⟩
  · exact zq_6 (by rw [hy.1]; exact hat) rfl hr hy.2.2.1
  · show 1 ≤ C + 1
    omega
  · show 6 ≤ S + 6 * 1
    omega
/-! calls -/
theorem z_rcvT {q t : Nat} {l : List Value} (e : fT h q t = true) : z_rcv (za_T xs) h (.ref q :: l) t = true := by
  unfold fT at e
  unfold z_rcv
  split at e
  · rename_i c e1
    simp only [z_hgT e1]
    exact e
  · cases e
/-- a call, behind it -/
theorem z_call (hy : z_me y cd nL hs rt) {i : Instr} {k0 c1 s1 : Nat} {as : List Value} {v : Option Value} {h2 : zH} (hat : z_at cd pc = some (i, len, a, b)) (hk : z_kind i a b = k0) (h3 : k0 = 2 ∨ k0 = 3 ∨ k0 = 7) (hst : st = as.reverse ++ rest) (hn : as.length = z_nn k0 b) (hcs : z_cs as ≤ za_P.2.1 a) (hrest : z_cs rest ≤ 8) (hrc : k0 ≠ 3 → z_rcv (za_T xs) h as (za_P.2.2.2.1 a) = true)
    (hm : zt xs d a 0 (lv_args 0 as) [] h c1 s1 (fun o g => o = .inl v ∧ g = h2)) (k : zt xs (d + 1) y (pc + 3) lv (v.toList ++ rest) h2 C S Q) : zt xs (d + 1) y pc lv st h (c1 + C) (s1 + S) Q := by
  obtain ⟨f1, o1, g1, c2, s2, hr1, hc1, hs1, rfl, rfl⟩ := hm
  obtain ⟨f2, o2, g2, c3, s3, hr2, hc2, hs2, hq⟩ := k
  refine ⟨f1 + f2 + 1, o2, g2, c3 + c2, s3 + s2, ?_, ?_, ?_, hq⟩
  · have e1 := z_more f1 d a 0 _ [] h 0 0 _ _ c2 s2 hr1 (f1 + f2) d _ 0 0 (Nat.le_add_right _ _) (Nat.le_refl _) (Or.inl rfl)
    have e2 := z_more f2 (d + 1) y (pc + 3) lv _ _ 0 0 o2 g2 c3 s3 hr2 (f1 + f2) (d + 1) lv c2 s2 (Nat.le_add_left _ _) (Nat.le_refl _) (Or.inl rfl)
    simp only [Nat.add_zero, Nat.zero_add] at e1 e2
    have et : st.take (z_nn k0 b) = as.reverse := by rw [hst, ← hn, ← List.length_reverse, List.take_left]
    have ed : st.drop (z_nn k0 b) = rest := by rw [hst, ← hn, ← List.length_reverse, List.drop_left]
    have hcond : z_nn k0 b ≤ st.length ∧ z_cs (st.drop (z_nn k0 b)) ≤ 8 ∧ z_cs (st.take (z_nn k0 b)) ≤ za_P.2.1 a ∧ (k0 ≠ 3 → z_rcv (za_T xs) h (st.take (z_nn k0 b)).reverse (za_P.2.2.2.1 a) = true) := by
      refine ⟨?_, by rw [ed]; exact hrest, by rw [et, z_cs_rev]; exact hcs, fun hz => by rw [et, List.reverse_reverse]; exact hrc hz⟩
      rw [hst, List.length_append, List.length_reverse, hn]
      exact Nat.le_add_right _ _
    have e1' : z_run (za_T xs) za_P (f1 + f2) d a 0 (lv_args 0 (st.take (z_nn k0 b)).reverse) [] h 0 0 = some (.inl v, g1, c2, s2) := by rw [et, List.reverse_reverse]; exact e1
    have e2' : z_run (za_T xs) za_P (f1 + f2) (d + 1) y (pc + 3) lv (v.toList ++ st.drop (z_nn k0 b)) g1 (0 + c2) (0 + s2) = some (o2, g2, c3 + c2, s3 + s2) := by rw [ed]; simpa using e2
    rw [zq_c (by rw [hy.1]; exact hat) hk h3 hcond, e1']
    exact e2'
  · have : zxc (.inl v) = 0 := rfl
    rw [this] at hc1
    omega
  · have : zxc (.inl v) = 0 := rfl
    rw [this] at hs1
    omega
/-- a call out of which something is thrown that is not caught here -/
theorem z_callX (hy : z_me y cd nL [] rt) {i : Instr} {k0 : Nat} {as : List Value} {E : Nat} {h2 : zH} (hat : z_at cd pc = some (i, len, a, b)) (hk : z_kind i a b = k0) (h3 : k0 = 2 ∨ k0 = 3) (hst : st = as.reverse ++ rest) (hn : as.length = z_nn k0 b) (hcs : z_cs as ≤ za_P.2.1 a) (hrest : z_cs rest ≤ 8) (hrc : k0 ≠ 3 → z_rcv (za_T xs) h as (za_P.2.2.2.1 a) = true)
    (hm : zt xs d a 0 (lv_args 0 as) [] h C S (fun o g => o = .inr E ∧ g = h2)) (hq : Q (.inr E) h2) : zt xs (d + 1) y pc lv st h C S Q := by
  obtain ⟨f1, o1, g1, c2, s2, hr1, hc1, hs1, rfl, rfl⟩ := hm
  refine ⟨f1 + 1, .inr E, g1, c2, s2, ?_, hc1, hs1, hq⟩
  have et : st.take (z_nn k0 b) = as.reverse := by rw [hst, ← hn, ← List.length_reverse, List.take_left]
  have ed : st.drop (z_nn k0 b) = rest := by rw [hst, ← hn, ← List.length_reverse, List.drop_left]
  have hcond : z_nn k0 b ≤ st.length ∧ z_cs (st.drop (z_nn k0 b)) ≤ 8 ∧ z_cs (st.take (z_nn k0 b)) ≤ za_P.2.1 a ∧ (k0 ≠ 3 → z_rcv (za_T xs) h (st.take (z_nn k0 b)).reverse (za_P.2.2.2.1 a) = true) := by
    refine ⟨?_, by rw [ed]; exact hrest, by rw [et, z_cs_rev]; exact hcs, fun hz => by rw [et, List.reverse_reverse]; exact hrc hz⟩
    rw [hst, List.length_append, List.length_reverse, hn]
    exact Nat.le_add_right _ _
  have e1' : z_run (za_T xs) za_P f1 d a 0 (lv_args 0 (st.take (z_nn k0 b)).reverse) [] h 0 0 = some (.inr E, g1, c2, s2) := by rw [et, List.reverse_reverse]; exact hr1
  rw [zq_c (by rw [hy.1]; exact hat) hk (h3.imp id Or.inl) hcond, e1']
  try dsimp only
  rw [if_neg (by omega), hy.2.2.1]
  simp
/-- a call out of which something is thrown that a handler here takes: it answers a constant -/
theorem z_callH (hy : z_me y cd nL hs rt) {i : Instr} {k0 c1 s1 : Nat} {as : List Value} {E : Nat} {w x0 : zX} {l0 : List zX} {h2 : zH} (hhs : hs = x0 :: l0) (hat : z_at cd pc = some (i, len, a, b)) (hk : z_kind i a b = k0) (h3 : k0 = 2 ∨ k0 = 3) (hst : st = as.reverse ++ rest) (hn : as.length = z_nn k0 b) (hcs : z_cs as ≤ za_P.2.1 a) (hrest : z_cs rest ≤ 8) (hrc : k0 ≠ 3 → z_rcv (za_T xs) h as (za_P.2.2.2.1 a) = true)
    (hm : zt xs d a 0 (lv_args 0 as) [] h c1 s1 (fun o g => o = .inr E ∧ g = h2)) (hw : z_catch za_nc hs pc E = some w) (hC : c1 + 1 ≤ C) (hS : s1 + 6 ≤ S) (hq : Q (.inl (some (.int w.2.2))) h2) : zt xs (d + 1) y pc lv st h C S Q := by
  obtain ⟨f1, o1, g1, c2, s2, hr1, hc1, hs1, rfl, rfl⟩ := hm
  have hx : zxc (.inr E) = 1 := rfl
  rw [hx] at hc1 hs1
  refine ⟨f1 + 1, .inl (some (.int w.2.2)), g1, c2, s2, ?_, by show c2 ≤ C + 0; omega, by show s2 ≤ S + 6 * 0; omega, hq⟩
  have et : st.take (z_nn k0 b) = as.reverse := by rw [hst, ← hn, ← List.length_reverse, List.take_left]
  have ed : st.drop (z_nn k0 b) = rest := by rw [hst, ← hn, ← List.length_reverse, List.drop_left]
  have hcond : z_nn k0 b ≤ st.length ∧ z_cs (st.drop (z_nn k0 b)) ≤ 8 ∧ z_cs (st.take (z_nn k0 b)) ≤ za_P.2.1 a ∧ (k0 ≠ 3 → z_rcv (za_T xs) h (st.take (z_nn k0 b)).reverse (za_P.2.2.2.1 a) = true) := by
    refine ⟨?_, by rw [ed]; exact hrest, by rw [et, z_cs_rev]; exact hcs, fun hz => by rw [et, List.reverse_reverse]; exact hrc hz⟩
    rw [hst, List.length_append, List.length_reverse, hn]
    exact Nat.le_add_right _ _
  have e1' : z_run (za_T xs) za_P f1 d a 0 (lv_args 0 (st.take (z_nn k0 b)).reverse) [] h 0 0 = some (.inr E, g1, c2, s2) := by rw [et, List.reverse_reverse]; exact hr1
  have hw' : z_catch za_P.2.2.2.2.2 (x0 :: l0) pc E = some w := by rw [hhs] at hw; exact hw
  rw [zq_c (by rw [hy.1]; exact hat) hk (h3.imp id Or.inl) hcond, e1']
  try dsimp only
  rw [if_neg (by omega), hy.2.2.1, hhs]
  try dsimp only
  rw [hw']
  simp
end ZT2
/-! calls of F functions; switches -/
theorem cond_some {α : Type} {b : Bool} {o : Option α} {x : α} (e : cond b o none = some x) : b = true ∧ o = some x := by
  cases b with
  | true => exact ⟨rfl, e⟩
  | false => cases e
/-- behind a callee that may throw -/
def bX {α β : Type} (o : Option ((α ⊕ Nat) × zH)) (g : α → zH → Option ((β ⊕ Nat) × zH)) : Option ((β ⊕ Nat) × zH) := match o with
  | some (.inl a, h) => g a h
  | some (.inr E, h) => some (.inr E, h)
  | none => none
/-- the same, thrown things taken by handlers here, which answer constants -/
def bH {α : Type} (hs : List zX) (pc : Nat) (o : Option ((α ⊕ Nat) × zH)) (g : α → zH → Option (Int32 × zH)) : Option (Int32 × zH) := match o with
  | some (.inl a, h) => g a h
  | some (.inr E, h) => (match z_catch za_nc hs pc E with | some w => some (w.2.2, h) | none => none)
  | none => none
/-- a call of what may throw, from where nothing thrown is expected -/
def bN {α β : Type} (o : Option ((α ⊕ Nat) × zH)) (g : α → zH → Option β) : Option β := match o with
  | some (.inl a, h) => g a h
  | _ => none
/-- a new row of numbers, at most 200 -/
def fNI (h : zH) (n : Int32) : Option zH := cond (decide (¬ n < 0) && (decide (n.toNatClampNeg ≤ 200) && Nat.blt h.length 1000000)) (some (h ++ [(100, List.replicate n.toNatClampNeg (.int 0))])) none
section ZT3
variable {xs : List Int32} {d y pc : Nat} {lv : List (Nat × Value)} {st rest : List Value} {h : zH} {C S : Nat} {Q : (Option Value ⊕ Nat) → zH → Prop} {cd : List zE} {nL : Nat} {hs : List zX} {rt : Option FieldType}
variable {len a b : Nat}
theorem zx_call {α β : Type} (hy : z_me y cd nL hs rt) {i : Instr} {k0 : Nat} {as : List Value} {X : Option (β × zH)} {G : β → zH → Option α} {r : α} {cv : β → Option Value ⊕ Nat} {ov : β → Option Value} (hcv : ∀ v, cv v = .inl (ov v)) (hat : z_at cd pc = some (i, len, a, b)) (hk : z_kind i a b = k0) (h3 : k0 = 2 ∨ k0 = 3 ∨ k0 = 7) (hst : st = as.reverse ++ rest) (hn : as.length = z_nn k0 b) (hcs : z_cs as ≤ za_P.2.1 a) (hrest : z_cs rest ≤ 8)
    (hrc : ∀ p, X = some p → k0 ≠ 3 → z_rcv (za_T xs) h as (za_P.2.2.2.1 a) = true) (hm : ∀ p, X = some p → zt xs d a 0 (lv_args 0 as) [] h 0 0 (zQ cv p)) (e : b2 X G = some r) (k : ∀ (v : β) (h2 : zH), X = some (v, h2) → G v h2 = some r → zt xs (d + 1) y (pc + 3) lv ((ov v).toList ++ rest) h2 C S Q) : zt xs (d + 1) y pc lv st h C S Q := by
  obtain ⟨v, h2, e1, e2⟩ := b2_some e
  have h9 := z_call (c1 := 0) (s1 := 0) hy hat hk h3 hst hn hcs hrest (hrc _ e1) (zt_wide (Nat.le_refl _) (Nat.le_refl _) (fun o g hq => ⟨hq.1.trans (hcv v), hq.2⟩) (hm _ e1)) (k v h2 e1 e2)
  simpa using h9
theorem zx_callX {α β : Type} (hy : z_me y cd nL [] rt) {i : Instr} {k0 : Nat} {as : List Value} {X : Option ((β ⊕ Nat) × zH)} {G : β → zH → Option ((α ⊕ Nat) × zH)} {r : (α ⊕ Nat) × zH} {cv : β → Option Value ⊕ Nat} {cw : α → Option Value ⊕ Nat} {ov : β → Option Value} (hcv : ∀ v, cv v = .inl (ov v)) (hat : z_at cd pc = some (i, len, a, b)) (hk : z_kind i a b = k0) (h3 : k0 = 2 ∨ k0 = 3) (hst : st = as.reverse ++ rest) (hn : as.length = z_nn k0 b) (hcs : z_cs as ≤ za_P.2.1 a) (hrest : z_cs rest ≤ 8)
    (hrc : ∀ p, X = some p → k0 ≠ 3 → z_rcv (za_T xs) h as (za_P.2.2.2.1 a) = true) (hm : ∀ p, X = some p → zt xs d a 0 (lv_args 0 as) [] h 0 0 (zQ (cX cv) p)) (e : bX X G = some r) (k : ∀ (v : β) (h2 : zH), X = some (.inl v, h2) → G v h2 = some r → zt xs (d + 1) y (pc + 3) lv ((ov v).toList ++ rest) h2 C S (zQ (cX cw) r)) : zt xs (d + 1) y pc lv st h C S (zQ (cX cw) r) := by
  unfold bX at e
  split at e
  · rename_i v h2
    have h9 := z_call (c1 := 0) (s1 := 0) hy hat hk (h3.imp id Or.inl) hst hn hcs hrest (hrc _ rfl) (zt_wide (Nat.le_refl _) (Nat.le_refl _) (fun o g hq => ⟨hq.1.trans (hcv v), hq.2⟩) (hm _ rfl)) (k v h2 rfl e)
    simpa using h9
  · rename_i E h2
    cases e
    exact z_callX hy hat hk h3 hst hn hcs hrest (hrc _ rfl) (zt_wide (Nat.zero_le _) (Nat.zero_le _) (fun o g hq => hq) (hm _ rfl)) ⟨rfl, rfl⟩
  · cases e
/-- the same, where nothing thrown is expected -/
theorem zx_callN {α β : Type} (hy : z_me y cd nL hs rt) {i : Instr} {k0 : Nat} {as : List Value} {X : Option ((β ⊕ Nat) × zH)} {G : β → zH → Option α} {r : α} {cv : β → Option Value ⊕ Nat} {ov : β → Option Value} (hcv : ∀ v, cv v = .inl (ov v)) (hat : z_at cd pc = some (i, len, a, b)) (hk : z_kind i a b = k0) (h3 : k0 = 2 ∨ k0 = 3) (hst : st = as.reverse ++ rest) (hn : as.length = z_nn k0 b) (hcs : z_cs as ≤ za_P.2.1 a) (hrest : z_cs rest ≤ 8)
    (hrc : ∀ p, X = some p → k0 ≠ 3 → z_rcv (za_T xs) h as (za_P.2.2.2.1 a) = true) (hm : ∀ p, X = some p → zt xs d a 0 (lv_args 0 as) [] h 0 0 (zQ (cX cv) p)) (e : bN X G = some r) (k : ∀ (v : β) (h2 : zH), X = some (.inl v, h2) → G v h2 = some r → zt xs (d + 1) y (pc + 3) lv ((ov v).toList ++ rest) h2 C S Q) : zt xs (d + 1) y pc lv st h C S Q := by
  unfold bN at e
  split at e
  · rename_i v h2
    have h9 := z_call (c1 := 0) (s1 := 0) hy hat hk (h3.imp id Or.inl) hst hn hcs hrest (hrc _ rfl) (zt_wide (Nat.le_refl _) (Nat.le_refl _) (fun o g hq => ⟨hq.1.trans (hcv v), hq.2⟩) (hm _ rfl)) (k v h2 rfl e)
    simpa using h9
  · cases e
/-- a call of a method that makes rows -/
theorem zx_callB {α β : Type} {c1 s1 C2 S2 : Nat} (hC : c1 + C ≤ C2) (hS : s1 + S ≤ S2) (hy : z_me y cd nL hs rt) {i : Instr} {k0 : Nat} {as : List Value} {X : Option (β × zH)} {G : β → zH → Option α} {r : α} {cv : β → Option Value ⊕ Nat} {ov : β → Option Value} (hcv : ∀ v, cv v = .inl (ov v)) (hat : z_at cd pc = some (i, len, a, b)) (hk : z_kind i a b = k0) (h3 : k0 = 2 ∨ k0 = 3 ∨ k0 = 7) (hst : st = as.reverse ++ rest) (hn : as.length = z_nn k0 b) (hcs : z_cs as ≤ za_P.2.1 a) (hrest : z_cs rest ≤ 8)
    (hrc : ∀ p, X = some p → k0 ≠ 3 → z_rcv (za_T xs) h as (za_P.2.2.2.1 a) = true) (hm : ∀ p, X = some p → zt xs d a 0 (lv_args 0 as) [] h c1 s1 (zQ cv p)) (e : b2 X G = some r) (k : ∀ (v : β) (h2 : zH), X = some (v, h2) → G v h2 = some r → zt xs (d + 1) y (pc + 3) lv ((ov v).toList ++ rest) h2 C S Q) : zt xs (d + 1) y pc lv st h C2 S2 Q := by
  obtain ⟨v, h2, e1, e2⟩ := b2_some e
  exact zt_wide hC hS (fun _ _ q => q) (z_call (c1 := c1) (s1 := s1) hy hat hk h3 hst hn hcs hrest (hrc _ e1) (zt_wide (Nat.le_refl _) (Nat.le_refl _) (fun o g hq => ⟨hq.1.trans (hcv v), hq.2⟩) (hm _ e1)) (k v h2 e1 e2))
theorem zx_newI {α : Type} {C2 S2 : Nat} {r : α} (hC : 1 + C ≤ C2) (hS : 200 + S ≤ S2) (hy : z_me y cd nL hs rt) {n : Int32} {G : zH → Option α} (hat : z_at cd pc = some (.newarray .int, len, a, b)) (e : b1 (fNI h n) G = some r) (k : ∀ h2 : zH, fNI h n = some h2 → G h2 = some r → zt xs d y (pc + 2) lv (.ref h.length :: st) h2 C S Q) : zt xs d y pc lv (.int n :: st) h C2 S2 Q := by
  obtain ⟨h2, e1, e2⟩ := b1_some e
  have e0 := e1
  unfold fNI at e1
  cases g : (decide (¬ n < 0) && (decide (n.toNatClampNeg ≤ 200) && Nat.blt h.length 1000000)) with
  | false => rw [g] at e1; cases e1
  | true =>
    rw [g] at e1
    rw [Bool.and_eq_true, Bool.and_eq_true, decide_eq_true_eq, decide_eq_true_eq] at g
    obtain ⟨g1, g2, g3⟩ := g
    have g3 : h.length < 1000000 := Nat.le_of_ble_eq_true g3
    cases e1
    refine zt_wide (C := 1 + C) (S := n.toNatClampNeg + S) hC (by omega) (fun _ _ q => q) (z_step1 hy hat rfl ?_ (k _ e0 e2))
    simp only [z_hp]
    rw [if_pos ⟨g1, by omega⟩]
    unfold z_mk
    rw [if_pos g3]
theorem zx_callH {β : Type} (hy : z_me y cd nL hs rt) {i : Instr} {k0 : Nat} {as : List Value} {x0 : zX} {l0 : List zX} {X : Option ((β ⊕ Nat) × zH)} {G : β → zH → Option (Int32 × zH)} {r : Int32 × zH} {cv : β → Option Value ⊕ Nat} {ov : β → Option Value} (hhs : hs = x0 :: l0) (hcv : ∀ v, cv v = .inl (ov v)) (hat : z_at cd pc = some (i, len, a, b)) (hk : z_kind i a b = k0) (h3 : k0 = 2 ∨ k0 = 3) (hst : st = as.reverse ++ rest) (hn : as.length = z_nn k0 b) (hcs : z_cs as ≤ za_P.2.1 a) (hrest : z_cs rest ≤ 8)
    (hrc : ∀ p, X = some p → k0 ≠ 3 → z_rcv (za_T xs) h as (za_P.2.2.2.1 a) = true) (hm : ∀ p, X = some p → zt xs d a 0 (lv_args 0 as) [] h 0 0 (zQ (cX cv) p)) (hC : 1 ≤ C) (hS : 6 ≤ S) (e : bH hs pc X G = some r) (k : ∀ (v : β) (h2 : zH), X = some (.inl v, h2) → G v h2 = some r → zt xs (d + 1) y (pc + 3) lv ((ov v).toList ++ rest) h2 C S (zQ cI r)) : zt xs (d + 1) y pc lv st h C S (zQ cI r) := by
  unfold bH at e
  split at e
  · rename_i v h2
    have h9 := z_call (c1 := 0) (s1 := 0) hy hat hk (h3.imp id Or.inl) hst hn hcs hrest (hrc _ rfl) (zt_wide (Nat.le_refl _) (Nat.le_refl _) (fun o g hq => ⟨hq.1.trans (hcv v), hq.2⟩) (hm _ rfl)) (k v h2 rfl e)
    simpa using h9
  · rename_i E h2
    split at e
    · rename_i w hw
      cases e
      exact z_callH (c1 := 0) (s1 := 0) hy hhs hat hk h3 hst hn hcs hrest (hrc _ rfl) (zt_wide (Nat.le_refl _) (Nat.le_refl _) (fun o g hq => hq) (hm _ rfl)) hw hC hS ⟨rfl, rfl⟩
    · cases e
  · cases e
/-- a switch's targets against its cases -/
def zK {α : Type} (xs : List Int32) (d y : Nat) (lv : List (Nat × Value)) (st : List Value) (h : zH) (C S : Nat) (Q : (Option Value ⊕ Nat) → zH → Prop) (r : α) : List Nat → List (Option α) → Prop
  | [], [] => True
  | t :: ts, G :: Gs => (G = some r → zt xs d y t lv st h C S Q) ∧ zK xs d y lv st h C S Q r ts Gs
  | _, _ => False
theorem zK_at {α : Type} {r : α} : ∀ {ts : List Nat} {Gs : List (Option α)}, zK xs d y lv st h C S Q r ts Gs → ∀ j : Nat, z_nth Gs j none = some r → ∃ t : Nat, ts[j]? = some t ∧ zt xs d y t lv st h C S Q := by
  intro ts
  induction ts with
  | nil =>
    intro Gs hk j e
    cases Gs with
    | nil => cases e
    | cons G Gs => exact hk.elim
  | cons t ts ih =>
    intro Gs hk j e
    cases Gs with
    | nil => exact hk.elim
    | cons G Gs =>
      cases j with
      | zero => exact ⟨t, rfl, hk.1 e⟩
      | succ j => exact ih hk.2 j e
theorem zx_tsw {α : Type} {r : α} {Gd : Option α} {Gs : List (Option α)} (hy : z_me y cd nL hs rt) {dflt lo hi : Int} {offs : Array Int} {x : Int32} (ts : List Nat) (td : Nat) (hat : z_at cd pc = some (.tableswitch dflt lo hi offs, len, a, b)) (hd : z_tg pc dflt = some td) (ho : offs.toList.map (z_tg pc) = ts.map some) (e : cond (decide (x.toInt < lo) || decide (hi < x.toInt)) Gd (z_nth Gs (x.toInt - lo).toNat none) = some r) (kd : Gd = some r → zt xs d y td lv st h C S Q) (ks : zK xs d y lv st h C S Q r ts Gs) : zt xs d y pc lv (.int x :: st) h C S Q := by
  cases g : (decide (x.toInt < lo) || decide (hi < x.toInt)) with
  | true =>
    rw [g] at e
    rw [Bool.or_eq_true, decide_eq_true_eq, decide_eq_true_eq] at g
    exact z_step0 hy hat rfl (by simp only [z_loc]; rw [if_pos g, hd]) (kd e)
  | false =>
    rw [g] at e
    rw [Bool.or_eq_false_iff, decide_eq_false_iff_not, decide_eq_false_iff_not] at g
    obtain ⟨t, h1, h2⟩ := zK_at ks _ e
    have h3 : (offs.toList.map (z_tg pc))[(x.toInt - lo).toNat]? = some (some t) := by rw [ho, List.getElem?_map, h1]; rfl
    rw [List.getElem?_map] at h3
    have h5 : ∃ off, offs[(x.toInt - lo).toNat]? = some off ∧ z_tg pc off = some t := by
      cases h4 : offs.toList[(x.toInt - lo).toNat]? with
      | none => rw [h4] at h3; cases h3
      | some off =>
        rw [h4] at h3
        exact ⟨off, by rw [← Array.getElem?_toList]; exact h4, Option.some.inj h3⟩
    obtain ⟨off, h6, h7⟩ := h5
    exact z_step0 hy hat rfl (by simp only [z_loc]; rw [if_neg (by omega), h6]; simp only [h7]) h2
/-- the first case of these keys, or the last -/
def z_lk {α : Type} (v : Int) (d0 : α) : List (Int × α) → α
  | [] => d0
  | q :: l => cond (decide (q.1 = v)) q.2 (z_lk v d0 l)
theorem z_lk_at {α : Type} {r : α} {v : Int} {Gd : Option α} {td : Nat} (kd : Gd = some r → zt xs d y td lv st h C S Q) : ∀ {ts : List (Int × Nat)} {Gs : List (Option α)}, zK xs d y lv st h C S Q r (ts.map (·.2)) Gs → z_lk v Gd ((ts.map (·.1)).zip Gs) = some r → zt xs d y (z_lk v td ts) lv st h C S Q := by
  intro ts
  induction ts with
  | nil => intro Gs hk e; exact kd e
  | cons t ts ih =>
    intro Gs hk e
    cases Gs with
    | nil => exact hk.elim
    | cons G Gs =>
      rw [List.map_cons, List.zip_cons_cons, z_lk] at e
      rw [z_lk]
      cases g : decide (t.1 = v) with
      | true => rw [g] at e; exact hk.1 e
      | false => rw [g] at e; exact ih hk.2 e
theorem zx_lsw {α : Type} {r : α} {Gd : Option α} {Gs : List (Option α)} (hy : z_me y cd nL hs rt) {dflt : Int} {ps : Array (Int × Int)} {x : Int32} (ts : List (Int × Nat)) (td : Nat) (hat : z_at cd pc = some (.lookupswitch dflt ps, len, a, b)) (hsort : (ps.toList.zip (ps.toList.drop 1)).all (fun (a, next) => a.1 < next.1) = true) (ho : ∀ v : Int, z_tg pc (Op.lookupswitch.offset ps.toList dflt v) = some (z_lk v td ts)) (e : z_lk x.toInt Gd ((ts.map (·.1)).zip Gs) = some r) (kd : Gd = some r → zt xs d y td lv st h C S Q) (ks : zK xs d y lv st h C S Q r (ts.map (·.2)) Gs) : zt xs d y pc lv (.int x :: st) h C S Q :=
  z_step0 hy hat rfl (by simp only [z_loc]; rw [if_pos hsort, ho]) (z_lk_at kd ks e)
theorem zx_fdiv {α : Type} {r : α} {G : UInt32 → Option α} (hy : z_me y cd nL hs rt) {x z : UInt32} (hat : z_at cd pc = some (.fdiv, len, a, b)) (e : (if FP.fdiv x z &&& 0x7fffffff ≤ 0x7f800000 then G (FP.fdiv x z) else none) = some r) (k : G (FP.fdiv x z) = some r → zt xs d y (pc + 1) lv (.float (FP.fdiv x z) :: st) h C S Q) : zt xs d y pc lv (.float z :: .float x :: st) h C S Q := by
  split at e
  · rename_i g
    exact z_step0 hy hat rfl (by simp only [z_loc]; rw [if_pos g]) (k e)
  · cases e
theorem zx_ddiv {α : Type} {r : α} {G : UInt64 → Option α} (hy : z_me y cd nL hs rt) {x z : UInt64} (hat : z_at cd pc = some (.ddiv, len, a, b)) (e : (if FP.ddiv x z &&& 0x7fffffffffffffff ≤ 0x7ff0000000000000 then G (FP.ddiv x z) else none) = some r) (k : G (FP.ddiv x z) = some r → zt xs d y (pc + 1) lv (.double (FP.ddiv x z) :: st) h C S Q) : zt xs d y pc lv (.double z :: .double x :: st) h C S Q := by
  split at e
  · rename_i g
    exact z_step0 hy hat rfl (by simp only [z_loc]; rw [if_pos g]) (k e)
  · cases e
theorem zx_f2d {α : Type} {r : α} {G : UInt64 → Option α} (hy : z_me y cd nL hs rt) {x : UInt32} (hat : z_at cd pc = some (.f2d, len, a, b)) (e : (if FP.f2d x &&& 0x7fffffffffffffff ≤ 0x7ff0000000000000 then G (FP.f2d x) else none) = some r) (k : G (FP.f2d x) = some r → zt xs d y (pc + 1) lv (.double (FP.f2d x) :: st) h C S Q) : zt xs d y pc lv (.float x :: st) h C S Q := by
  split at e
  · rename_i g
    exact z_step0 hy hat rfl (by simp only [z_loc]; rw [if_pos g]) (k e)
  · cases e
end ZT3
theorem z_lkT {pc td : Nat} {dflt : Int} (hd : z_tg pc dflt = some td) : ∀ (ps : List (Int × Int)) (ts : List (Int × Nat)), ps.map (fun q => (q.1, z_tg pc q.2)) = ts.map (fun q => (q.1, some q.2)) → ∀ v : Int, z_tg pc (Op.lookupswitch.offset ps dflt v) = some (z_lk v td ts) := by
  intro ps
  induction ps with
  | nil =>
    intro ts h v
    cases ts with
    | nil => exact hd
    | cons t ts => cases h
  | cons p ps ih =>
    intro ts h v
    cases ts with
    | nil => cases h
    | cons t ts =>
      rw [List.map_cons, List.map_cons, List.cons.injEq, Prod.mk.injEq] at h
      obtain ⟨a, o⟩ := p
      rw [Op.lookupswitch.offset_cons, z_lk]
      by_cases g : a = v
      · rw [if_pos g, show decide (t.1 = v) = true from decide_eq_true (by rw [← h.1.1]; exact g)]
        exact h.1.2
      · rw [if_neg g, show decide (t.1 = v) = false from decide_eq_false (by rw [← h.1.1]; exact g)]
        exact ih ts h.2 v
