/-! RUNS BY RULES: more fuel, more depth, more locals, more made ahead change no run; a run as a statement (zt); its rules. -/
/-- lv's entries are the first of their places in lv2 -/
def zR1 (lv lv2 : List (Nat × Value)) : Prop := ∀ q ∈ lv, z_get lv2 q.1 = some q.2
theorem zR1.get {lv lv2 : List (Nat × Value)} (h : zR1 lv lv2) {i : Nat} {v : Value} (hg : z_get lv i = some v) : z_get lv2 i = some v := h (i, v) (z_get_in hg)
theorem z_get_filter {p : Nat × Value → Bool} {j : Nat} {w : Value} (hp : p (j, w) = true) : ∀ {lv : List (Nat × Value)}, z_get lv j = some w → z_get (lv.filter p) j = some w := by
  intro lv
  induction lv with
  | nil => intro h; cases h
  | cons q l ih =>
    intro h
    rw [z_get] at h
    cases e : Nat.beq q.1 j with
    | true =>
      rw [e] at h
      obtain ⟨a, b⟩ := q
      have e1 : a = j := Nat.eq_of_beq_eq_true e
      cases h
      subst e1
      rw [List.filter_cons, if_pos hp, z_get]
      dsimp only
      rw [show Nat.beq a a = true from Nat.beq_refl a]
      rfl
    | false =>
      rw [e] at h
      rw [List.filter_cons]
      split
      · rw [z_get, e]
        exact ih h
      · exact ih h
theorem zR1.st {p : Nat × Value → Bool} {i : Nat} {v : Value} {lv lv2 : List (Nat × Value)} (h : zR1 lv lv2) (hp : ∀ w : Value, p (i, w) = false) : zR1 ((i, v) :: lv.filter p) ((i, v) :: lv2.filter p) := by
  intro q hq
  rcases List.mem_cons.mp hq with rfl | hq
  · rw [z_get]
    dsimp only
    rw [show Nat.beq i i = true from Nat.beq_refl i]
    rfl
  · obtain ⟨hq1, hq2⟩ := List.mem_filter.mp hq
    have hne : Nat.beq i q.1 = false := by
      cases e : Nat.beq i q.1 with
      | false => rfl
      | true =>
        have e1 : i = q.1 := Nat.eq_of_beq_eq_true e
        have := hp q.2
        rw [e1] at this
        rw [show (q.1, q.2) = q from rfl] at this
        rw [hq2] at this
        cases this
    rw [z_get]
    dsimp only
    rw [hne]
    exact z_get_filter (j := q.1) (w := q.2) hq2 (h q hq1)
theorem zR1.st1 {i : Nat} {v : Value} {lv lv2 : List (Nat × Value)} (h : zR1 lv lv2) : zR1 (z_st1 i v lv) (z_st1 i v lv2) := h.st (fun w => by simp)
theorem zR1.st2 {i : Nat} {v : Value} {lv lv2 : List (Nat × Value)} (h : zR1 lv lv2) : zR1 (z_st2 i v lv) (z_st2 i v lv2) := h.st (fun w => by simp)
def zRe (lv lv2 : List (Nat × Value)) : Prop := lv = lv2 ∨ zR1 lv lv2
set_option maxHeartbeats 4000000 in
theorem z_loc_mono {i : Instr} {pc a nL pc2 : Nat} {lv lv2 lvo : List (Nat × Value)} {st st2 : List Value} (h : z_loc i pc a nL lv st = some (pc2, lvo, st2)) (hr : zRe lv lv2) : ∃ lvo2, z_loc i pc a nL lv2 st = some (pc2, lvo2, st2) ∧ zRe lvo lvo2 := by
  rcases hr with rfl | hr
  · exact ⟨lvo, h, Or.inl rfl⟩
  · cases i <;> simp only [z_loc] at h <;> (repeat' split at h) <;> first
      | (exfalso; cases h; done)
      | (cases h; simp only [z_loc]; first
        | exact ⟨_, rfl, Or.inr hr⟩
        | (rename_i g; rw [hr.get g]; exact ⟨_, rfl, Or.inr hr⟩)
        | (rename_i g _; rw [hr.get g]; rw [if_pos (by assumption)]; exact ⟨_, rfl, Or.inr hr.st1⟩)
        | (rw [if_pos (by assumption)]; exact ⟨_, rfl, Or.inr hr.st1⟩)
        | (rw [if_pos (by assumption)]; exact ⟨_, rfl, Or.inr hr.st2⟩)
        | (rw [if_pos (by assumption)]; exact ⟨_, rfl, Or.inr hr⟩)
        | (rw [if_neg (by assumption)]; exact ⟨_, rfl, Or.inr hr⟩)
        | (rename_i g hif; rw [hr.get g]; dsimp only; rw [if_pos hif]; exact ⟨_, rfl, Or.inr hr.st1⟩)
        | (refine ⟨lv2, ?_, Or.inr hr⟩; simp_all; done)
        | (refine ⟨lv2, ?_, Or.inr hr⟩; rw [if_pos (by assumption)]; simp_all; done)
        | (refine ⟨lv2, ?_, Or.inr hr⟩; rw [if_neg (by assumption)]; simp_all; done))

theorem zRe.args (vs : List Value) (k : Nat) : zRe (lv_args k vs) (lv_args k vs) := Or.inl rfl
set_option maxHeartbeats 4000000 in
/-- more fuel, more depth, more locals, more made ahead -/
theorem z_more {T : zT} {P : zP} : ∀ (f d y pc : Nat) (lv : List (Nat × Value)) (st : List Value) (h : zH) (cs ss : Nat) (o : Option Value ⊕ Nat) (h2 : zH) (c2 s2 : Nat), z_run T P f d y pc lv st h cs ss = some (o, h2, c2, s2) →
    ∀ (g e : Nat) (lv2 : List (Nat × Value)) (k n : Nat), f ≤ g → d ≤ e → zRe lv lv2 → z_run T P g e y pc lv2 st h (cs + k) (ss + n) = some (o, h2, c2 + k, s2 + n) := by
  intro f
  induction f with
  | zero => intro d y pc lv st h cs ss o h2 c2 s2 er; cases er
  | succ f ih =>
    intro d y pc lv st h cs ss o h2 c2 s2 er g e lv2 k n hfg hde hR
    obtain ⟨g, rfl⟩ : ∃ g', g = g' + 1 := ⟨g - 1, by omega⟩
    have hfg' : f ≤ g := by omega
    rw [z_run] at er ⊢
    split at er
    · cases er
    · rename_i i len a b e1
      split at er
      · rename_i hk
        try simp only [hk]
        split at er
        · rename_i pc2 lvo st2 e2
          obtain ⟨lvo2, e3, hR2⟩ := z_loc_mono e2 hR
          simp only [e3]
          exact ih _ _ _ _ _ _ _ _ _ _ _ _ er _ _ _ _ _ hfg' hde hR2
        · cases er
      · rename_i hk
        try simp only [hk]
        split at er
        · rename_i pc2 st2 h3 dc ds e2
          try simp only [e2]
          have := ih _ _ _ _ _ _ _ _ _ _ _ _ er g e lv2 k n hfg' hde hR
          rw [show cs + k + dc = cs + dc + k by omega, show ss + n + ds = ss + ds + n by omega]
          exact this
        · cases er
      · rename_i hk
        try simp only [hk]
        split at er
        · split at er
          · rename_i hr
            cases er
            rw [if_pos hr]
          · cases er
        · cases er
      · rename_i hk
        try simp only [hk]
        split at er
        · rename_i hr
          cases er
          rw [if_pos hr]
        · cases er
      · rename_i hk
        try simp only [hk]
        split at er
        · rename_i hr
          cases er
          rw [if_pos hr, show cs + k + 1 = cs + 1 + k by omega, show ss + n + 6 = ss + 6 + n by omega]
        · cases er
      · rename_i hk0 hk1 hk4 hk5 hk6
        split at er
        · cases er
        · rename_i d'
          obtain ⟨e', rfl⟩ : ∃ e', e = e' + 1 := ⟨e - 1, by omega⟩
          dsimp only
          split at er
          · rename_i hc
            rw [if_pos hc]
            split at er
            · cases er
            · rename_i ov h3 dc ds e2
              have e3 := ih _ _ _ _ _ _ _ _ _ _ _ _ e2 g e' _ 0 0 hfg' (by omega) (zRe.args _ _)
              simp only [Nat.add_zero] at e3
              simp only [e3]
              have := ih _ _ _ _ _ _ _ _ _ _ _ _ er g (e' + 1) lv2 k n hfg' hde hR
              rw [show cs + k + dc = cs + dc + k by omega, show ss + n + ds = ss + ds + n by omega]
              exact this
            · rename_i ex h3 dc ds e2
              have e3 := ih _ _ _ _ _ _ _ _ _ _ _ _ e2 g e' _ 0 0 hfg' (by omega) (zRe.args _ _)
              simp only [Nat.add_zero] at e3
              simp only [e3]
              split at er
              · cases er
              · rename_i hk7
                rw [if_neg hk7]
                split at er
                · cases er
                  rw [show cs + k + dc = cs + dc + k by omega, show ss + n + ds = ss + ds + n by omega]
                · split at er
                  · rename_i hw
                    cases er
                    rw [show cs + k + dc = cs + dc + k by omega, show ss + n + ds = ss + ds + n by omega]
                  · cases er
          · cases er
