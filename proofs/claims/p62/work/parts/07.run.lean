/-! THE PURE MACHINE, VI: methods, calls, throws. f: fuel; d: how deep calls may go; y: the method; cs, ss: cells and slots made so far by this call. -/
abbrev zE : Type := Nat × Instr × Nat × Nat × Nat
abbrev zX : Type := (Nat × Nat × Nat × Nat) × Nat × Int32
/-- the methods: code, locals, handlers (row, exception, the handler's answer), the receiver's tag, what is returned; which exceptions pass which handlers -/
abbrev zP : Type := (Nat → List zE) × (Nat → Nat) × (Nat → List zX) × (Nat → Nat) × (Nat → Option FieldType) × List (Nat × Nat)
abbrev zO : Type := (Option Value ⊕ Nat) × zH × Nat × Nat
def z_at : List zE → Nat → Option (Instr × Nat × Nat × Nat)
  | [], _ => none
  | q :: l, pc => cond (Nat.beq q.1 pc) (some q.2) (z_at l pc)
theorem z_at_in {l : List zE} {pc : Nat} {r : Instr × Nat × Nat × Nat} (h : z_at l pc = some r) : (pc, r) ∈ l := by
  induction l with
  | nil => cases h
  | cons q l ih =>
    rw [z_at] at h
    cases e : Nat.beq q.1 pc with
    | true =>
      rw [e] at h
      obtain ⟨a, b⟩ := q
      have e1 : a = pc := Nat.eq_of_beq_eq_true e
      cases h
      subst e1
      exact List.mem_cons_self
    | false =>
      rw [e] at h
      exact List.mem_cons_of_mem _ (ih h)
/-- 0: local; 1: the heap; 2: a call with a receiver; 3: a static call; 4: an answer; 5: return; 6: new E(text), thrown; 7: a constructor, or an inherited method (b is 1000 and more): no throw comes out of it -/
def z_kind (i : Instr) (a b : Nat) : Nat := match i with
  | .invokevirtual _ => cond (Nat.ble 1000 b) 7 2
  | .invokestatic _ => cond (Nat.ble 9997 a) 1 3
  | .invokespecial _ => cond (Nat.beq a 9999) 1 7
  | .ireturn => 4
  | .lreturn => 4
  | .freturn => 4
  | .dreturn => 4
  | .areturn => 4
  | .return_ => 5
  | .new _ => cond (Nat.ble 1000 b) 6 1
  | .getfield _ => 1
  | .putfield _ => 1
  | .getstatic _ => 1
  | .ldc _ => 1
  | .ldc_w _ => 1
  | .ldc2_w _ => 1
  | .arraylength => 1
  | .iaload => 1
  | .baload => 1
  | .caload => 1
  | .laload => 1
  | .aaload => 1
  | .iastore => 1
  | .bastore => 1
  | .castore => 1
  | .lastore => 1
  | .aastore => 1
  | .newarray _ => 1
  | .anewarray _ => 1
  | .ifnull _ => 1
  | .ifnonnull _ => 1
  | .if_acmp _ _ => 1
  | _ => 0
/-- how many values a call takes off the stack -/
def z_nn (k b : Nat) : Nat := b % 1000 + cond (Nat.beq k 3) 0 1
def z_rcv (T : zT) (h : zH) (st : List Value) (t : Nat) : Bool := match st with
  | .ref q :: _ => (match z_hg T.1 h q with | some c => Nat.beq c.1 t | none => false)
  | _ => false
def z_rok (i : Instr) (rt : Option FieldType) (v : Value) : Bool := match i, rt, v with
  | .ireturn, some .int, .int _ => true
  | .ireturn, some .boolean, .int x => decide (x = 0) || decide (x = 1)
  | .ireturn, some .byte, .int x => decide (x.toInt8.toInt32 = x)
  | .ireturn, some .char, .int x => decide (x.toUInt32.toUInt16.toUInt32.toInt32 = x)
  | .lreturn, some .long, .long _ => true
  | .freturn, some .float, .float _ => true
  | .dreturn, some .double, .double _ => true
  | .areturn, some (.object _), .ref _ => true
  | .areturn, some (.object _), .null => true
  | .areturn, some (.array _), .ref _ => true
  | _, _, _ => false
def z_catch (nc : List (Nat × Nat)) : List zX → Nat → Nat → Option zX
  | [], _, _ => none
  | x :: l, pc, e => if x.1.1 ≤ pc ∧ pc < x.1.2.1 then (if x.2.1 = e then some x else if (e, x.2.1) ∈ nc then z_catch nc l pc e else none) else z_catch nc l pc e
def z_run (T : zT) (P : zP) : Nat → Nat → Nat → Nat → List (Nat × Value) → List Value → zH → Nat → Nat → Option zO
  | 0, _, _, _, _, _, _, _, _ => none
  | f + 1, d, y, pc, lv, st, h, cs, ss =>
    match z_at (P.1 y) pc with
    | none => none
    | some (i, _, a, b) =>
      match z_kind i a b with
      | 0 => (match z_loc i pc a (P.2.1 y) lv st with
        | some (pc2, lv2, st2) => z_run T P f d y pc2 lv2 st2 h cs ss
        | none => none)
      | 1 => (match z_hp T i pc a b st h with
        | some (pc2, st2, h2, dc, ds) => z_run T P f d y pc2 lv st2 h2 (cs + dc) (ss + ds)
        | none => none)
      | 4 => (match st with
        | v :: r => if r = [] ∧ z_rok i (P.2.2.2.2.1 y) v = true then some (.inl (some v), h, cs, ss) else none
        | _ => none)
      | 5 => if st = [] ∧ P.2.2.2.2.1 y = none then some (.inl none, h, cs, ss) else none
      | 6 => if z_cs st ≤ 8 ∧ P.2.2.1 y = [] then some (.inr a, h, cs + 1, ss + 6) else none
      | k => (match d with
        | 0 => none
        | d + 1 =>
          if z_nn k b ≤ st.length ∧ z_cs (st.drop (z_nn k b)) ≤ 8 ∧ z_cs (st.take (z_nn k b)) ≤ P.2.1 a ∧ (k ≠ 3 → z_rcv T h (st.take (z_nn k b)).reverse (P.2.2.2.1 a) = true) then
            (match z_run T P f d a 0 (lv_args 0 (st.take (z_nn k b)).reverse) [] h 0 0 with
            | none => none
            | some (.inl o, h2, dc, ds) => z_run T P f (d + 1) y (pc + 3) lv (o.toList ++ st.drop (z_nn k b)) h2 (cs + dc) (ss + ds)
            | some (.inr e, h2, dc, ds) => if k = 7 then none else (match P.2.2.1 y with
              | [] => some (.inr e, h2, cs + dc, ss + ds)
              | x :: l => (match z_catch P.2.2.2.2.2 (x :: l) pc e with
                | some w => some (.inl (some (.int w.2.2)), h2, cs + dc, ss + ds)
                | none => none)))
          else none)
/-- what has been made is never less -/
theorem z_run_mono (T : zT) (P : zP) : ∀ (f d y pc : Nat) (lv : List (Nat × Value)) (st : List Value) (h : zH) (cs ss : Nat) (o : Option Value ⊕ Nat) (h2 : zH) (c2 s2 : Nat), z_run T P f d y pc lv st h cs ss = some (o, h2, c2, s2) → cs ≤ c2 ∧ ss ≤ s2 := by
  intro f
  induction f with
  | zero => intro d y pc lv st h cs ss o h2 c2 s2 e; cases e
  | succ f ih =>
    intro d y pc lv st h cs ss o h2 c2 s2 e
    rw [z_run] at e
    split at e
    · cases e
    · rename_i i len a b e1
      split at e
      · split at e
        · exact ih _ _ _ _ _ _ _ _ _ _ _ _ e
        · cases e
      · split at e
        · have := ih _ _ _ _ _ _ _ _ _ _ _ _ e
          exact ⟨by omega, by omega⟩
        · cases e
      · split at e
        · split at e
          · cases e; exact ⟨Nat.le_refl _, Nat.le_refl _⟩
          · cases e
        · cases e
      · split at e
        · cases e; exact ⟨Nat.le_refl _, Nat.le_refl _⟩
        · cases e
      · split at e
        · cases e; exact ⟨by omega, by omega⟩
        · cases e
      · split at e
        · cases e
        · split at e
          · split at e
            · cases e
            · have := ih _ _ _ _ _ _ _ _ _ _ _ _ e
              exact ⟨by omega, by omega⟩
            · split at e
              · cases e
              · split at e
                · cases e; exact ⟨by omega, by omega⟩
                · split at e
                  · cases e; exact ⟨by omega, by omega⟩
                  · cases e
          · cases e
