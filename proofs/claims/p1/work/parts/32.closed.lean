/-! THE REFERENCE'S CALLS with their long loops in closed form. -/
def zL {α : Type} (a b : Option α) : Prop := ∀ r, a = some r → b = some r
theorem zL_r {α : Type} {a : Option α} : zL a a := fun _ e => e
theorem zL_1 {α β : Type} {o : Option α} {f g : α → Option β} (e : ∀ x, zL (f x) (g x)) : zL (b1 o f) (b1 o g) := by
  intro r e1
  cases o with
  | none => cases e1
  | some a => exact e a r e1
theorem zL_2 {α β : Type} {o p : Option (α × zH)} {f g : α → zH → Option β} (e0 : zL o p) (e : ∀ x h, zL (f x h) (g x h)) : zL (b2 o f) (b2 p g) := by
  intro r e1
  obtain ⟨a, h, e2, e3⟩ := b2_some e1
  rw [e0 _ e2]
  exact e a h r e3
theorem zL_c {α : Type} {c : Bool} {a b a' b' : Option α} (e : zL a a') (e' : zL b b') : zL (cond c a b) (cond c a' b') := by
  cases c with
  | true => exact e
  | false => exact e'
theorem zL_n {α : Type} {b : Option α} : zL none b := fun _ e => by cases e
theorem z_eqA_mono {B G M : zH → Option (Int32 × zH)} {h : zH} (hm : ∀ h, zL (G h) (M h)) (e : z_eqA B G h = true) : z_eqA B M h = true := by
  unfold z_eqA at e ⊢
  cases hb : B h with
  | none => rw [hb] at e; cases e
  | some p =>
    obtain ⟨x, h3⟩ := p
    rw [hb] at e
    cases hg : G h3 with
    | none => simp only [hg] at e; cases e
    | some q =>
      simp only [hg] at e
      simp only [show M h3 = some q from hm h3 q hg]
      exact e
theorem z_eqC_mono {α : Type} {cv : α → Int64} {L T : zH → Option (Int32 × zH)} {G M : zH → Option (α × zH)} {l3 : Nat} {h : zH} (hm : ∀ h, zL (G h) (M h)) (e : z_eqC cv L G T l3 h = true) : z_eqC cv L M T l3 h = true := by
  unfold z_eqC at e ⊢
  cases hb : L h with
  | none => rw [hb] at e; cases e
  | some p =>
    obtain ⟨x, h3⟩ := p
    rw [hb] at e
    cases hg : G h3 with
    | none => simp only [hg] at e; cases e
    | some q =>
      simp only [hg] at e
      simp only [show M h3 = some q from hm h3 q hg]
      exact e
def zs_int : Value → Bool
  | .int _ => true
  | _ => false
def zs_row (h : zH) (p n : Nat) : Option (List Value) := match h[p]? with
  | some (t, vs) => cond (Nat.beq t 100 && Nat.beq vs.length n && vs.all zs_int) (some vs) none
  | none => none
theorem zs_row_some {h : zH} {p n : Nat} {W : List Value} (e : zs_row h p n = some W) : h[p]? = some (100, W) ∧ W.length = n ∧ (∀ i, i < n → ∃ x, W[i]? = some (.int x)) ∧ p < h.length := by
  unfold zs_row at e
  cases hh : h[p]? with
  | none => rw [hh] at e; cases e
  | some c =>
    obtain ⟨t, vs⟩ := c
    rw [hh] at e
    simp only at e
    cases hc : (Nat.beq t 100 && Nat.beq vs.length n && vs.all zs_int) with
    | false => rw [hc] at e; cases e
    | true =>
      rw [hc, cond_true] at e
      cases e
      rw [Bool.and_eq_true, Bool.and_eq_true] at hc
      obtain ⟨⟨h1, h2⟩, h3⟩ := hc
      have h1 := Nat.eq_of_beq_eq_true h1
      have h2 := Nat.eq_of_beq_eq_true h2
      subst h1
      refine ⟨rfl, h2, ?_, (List.getElem?_eq_some_iff.mp hh).1⟩
      intro i hi
      have h4 : i < W.length := by omega
      have h5 := List.all_eq_true.mp h3 W[i] (List.getElem_mem h4)
      rw [List.getElem?_eq_getElem h4]
      cases hv : W[i] with
      | int x => exact ⟨x, rfl⟩
      | _ => rw [hv] at h5; cases h5
def zs_vs (h : zH) (q : Nat) : Option (List Value) := match h[q]? with
  | some (t, vs) => cond (Nat.beq t 5) (some vs) none
  | none => none
theorem zs_vs_some {h : zH} {q : Nat} {vs : List Value} (e : zs_vs h q = some vs) : h[q]? = some (5, vs) := by
  unfold zs_vs at e
  cases hh : h[q]? with
  | none => rw [hh] at e; cases e
  | some c =>
    obtain ⟨t, ws⟩ := c
    rw [hh] at e
    simp only at e
    cases hc : Nat.beq t 5 with
    | false => rw [hc] at e; cases e
    | true =>
      rw [hc, cond_true] at e
      cases e
      have h1 := Nat.eq_of_beq_eq_true hc
      subst h1
      rfl
def zs_ref (vs : List Value) (k p : Nat) : Bool := match vs[k]? with
  | some (.ref x) => Nat.beq x p
  | _ => false
theorem zs_ref_some {vs : List Value} {k p : Nat} (e : zs_ref vs k p = true) : vs[k]? = some (.ref p) := by
  unfold zs_ref at e
  split at e
  · next x hx => rw [hx, Nat.eq_of_beq_eq_true e]
  · cases e
def zs_nat (vs : List Value) (k : Nat) : Option Nat := match vs[k]? with
  | some (.int x) => cond (z_cmp .eq x (Int32.ofInt (x.toNatClampNeg : Int))) (some x.toNatClampNeg) none
  | _ => none
theorem zs_nat_some {vs : List Value} {k n : Nat} (e : zs_nat vs k = some n) : vs[k]? = some (.int (Int32.ofInt (n : Int))) := by
  unfold zs_nat at e
  split at e
  · next x hx =>
    cases hc : z_cmp .eq x (Int32.ofInt (x.toNatClampNeg : Int)) with
    | false => rw [hc] at e; cases e
    | true =>
      rw [hc, cond_true] at e
      cases e
      rw [hx]
      have h1 : x = Int32.ofInt (x.toNatClampNeg : Int) := of_decide_eq_true hc
      rw [← h1]
  · cases e
theorem zs_at (n : Nat) (hn : Nat.ble 452 n = true) : ∃ m, n = m + 1 + 451 := ⟨n - 452, by have := Nat.le_of_ble_eq_true hn; omega⟩
theorem zs_at2 (n : Nat) (hn : Nat.ble 452 n = true) : ∃ m, n = m + 1 + 120 := ⟨n - 121, by have := Nat.le_of_ble_eq_true hn; omega⟩
theorem zs_same {h : zH} {p : Nat} {c : zC} (e : h[p]? = some c) : h.set p c = h := by
  obtain ⟨h6, h7⟩ := List.getElem?_eq_some_iff.mp e
  rw [← h7]
  exact List.set_getElem_self h6
/-- begins -/
def gM_begins (N : Nat) (q : Nat) (h : zH) : Option (Unit × zH) := cond (Nat.beq q 232 && Nat.ble 452 N) (b1 (zs_vs h 232) fun vs => cond (zs_ref vs 0 233 && zs_ref vs 1 234) (b1 (zs_row h 233 451) fun W => b1 (zs_row h 234 451) fun _ => some ((), h.set 234 (100, W))) none) none
theorem gfM_begins {N q : Nat} {h : zH} : zL (gM_begins N q h) (fM_begins N q h) := by
  intro r e
  unfold gM_begins at e
  cases hc : (Nat.beq q 232 && Nat.ble 452 N) with
  | false => rw [hc] at e; cases e
  | true =>
    rw [hc, cond_true] at e
    rw [Bool.and_eq_true] at hc
    have h1 := Nat.eq_of_beq_eq_true hc.1
    subst h1
    obtain ⟨m, hm⟩ := zs_at N hc.2
    obtain ⟨vs, h2, e⟩ := b1_some e
    cases hd : (zs_ref vs 0 233 && zs_ref vs 1 234) with
    | false => rw [hd] at e; cases e
    | true =>
      rw [hd, cond_true] at e
      rw [Bool.and_eq_true] at hd
      obtain ⟨W, h3, e⟩ := b1_some e
      obtain ⟨B, h4, e⟩ := b1_some e
      obtain ⟨w1, w2, w3, w4⟩ := zs_row_some h3
      obtain ⟨v1, v2, v3, v4⟩ := zs_row_some h4
      have h5 := zg_begins_2 (N := N) (n := m) (q := 232) (w := 233) (b := 234) (by decide) (by decide) (by decide) (by decide) (zs_vs_some h2) (zs_ref_some hd.1) (zs_ref_some hd.2) w1 w2 w3 v4 451 0 rfl B v2 rfl
      rw [zs_same v1, ← hm] at h5
      unfold fM_begins
      rw [show fT h 232 5 = true by unfold fT; rw [zh_hg (by decide) (zs_vs_some h2)]; rfl, cond_true]
      exact h5.trans e
/-- takes -/
def gM_takes (N : Nat) (q : Nat) (h : zH) : Option (Int32 × zH) := cond (Nat.beq q 232 && Nat.ble 452 N) (b1 (zs_vs h 232) fun vs => cond (zs_ref vs 0 233 && zs_ref vs 8 239) (b1 (zs_row h 233 451) fun W => b1 (zs_row h 239 130) fun R => b1 (zs_nat vs 14) fun L => cond (Nat.ble L 120) (some (Int32.ofInt (L : Int), h.set 233 (100, (W.set 1 (.int (Int32.ofInt (L : Int)))).take 3 ++ ((R.take L ++ List.replicate (120 - L) (Value.int (Int32.ofInt 0))) ++ (W.set 1 (.int (Int32.ofInt (L : Int)))).drop 123)))) none) none) none
theorem gfM_takes {N q : Nat} {h : zH} : zL (gM_takes N q h) (fM_takes N q h) := by
  intro r e
  unfold gM_takes at e
  cases hc : (Nat.beq q 232 && Nat.ble 452 N) with
  | false => rw [hc] at e; cases e
  | true =>
    rw [hc, cond_true] at e
    rw [Bool.and_eq_true] at hc
    have h1 := Nat.eq_of_beq_eq_true hc.1
    subst h1
    obtain ⟨m, hm⟩ := zs_at2 N hc.2
    obtain ⟨vs, h2, e⟩ := b1_some e
    cases hd : (zs_ref vs 0 233 && zs_ref vs 8 239) with
    | false => rw [hd] at e; cases e
    | true =>
      rw [hd, cond_true] at e
      rw [Bool.and_eq_true] at hd
      obtain ⟨W, h3, e⟩ := b1_some e
      obtain ⟨R, h4, e⟩ := b1_some e
      obtain ⟨L, h5, e⟩ := b1_some e
      cases hL : Nat.ble L 120 with
      | false => rw [hL] at e; cases e
      | true =>
        rw [hL, cond_true] at e
        have hL := Nat.le_of_ble_eq_true hL
        obtain ⟨w1, w2, w3, w4⟩ := zs_row_some h3
        obtain ⟨v1, v2, v3, v4⟩ := zs_row_some h4
        have eq := zs_vs_some h2
        have e0 := zs_ref_some hd.1
        have e14 := zs_nat_some h5
        have h6 := zg_takes_12 (N := N) (n := m) (q := 232) (w := 233) (r := 239) (by decide) (by decide) (by decide) (by decide) (by decide) eq e0 (zs_ref_some hd.2) e14 hL v1 (by omega) (fun i hi => v3 i (by omega)) w4 120 0 rfl (W.set 1 (.int (Int32.ofInt (L : Int)))) (by rw [List.length_set]; exact w2)
        rw [← hm] at h6
        unfold fM_takes
        rw [show fT h 232 5 = true by unfold fT; rw [zh_hg (by decide) eq]; rfl, cond_true, zh_R (by decide) eq e0, b1, zh_I (by decide) eq e14, b1, show (Int32.ofInt 1) = Int32.ofInt ((1 : Nat) : Int) from rfl, zh_AS w1 (by omega) (by decide), b1]
        exact h6.trans e
/-- remember -/
def gM_remember (N : Nat) (q : Nat) (l1 : Int32) (h : zH) : Option (Int32 × zH) := cond (Nat.beq q 232 && Nat.ble 452 N) (b1 (zs_vs h 232) fun vs => cond (zs_ref vs 1 234 && zs_ref vs 2 235) (b1 (zs_row h 234 451) fun B => b1 (zs_row h 235 3608) fun P => b1 (zs_nat vs 4) fun c => cond (Nat.blt c 8) (some (l1, (h.set 235 (100, P.take (451 * c) ++ (B ++ P.drop (451 * c + 451)))).set 232 (5, vs.set 4 (.int (Int32.ofInt (c : Int) + Int32.ofInt 1))))) none) none) none
theorem gfM_remember {N q : Nat} {l1 : Int32} {h : zH} : zL (gM_remember N q l1 h) (fM_remember N q l1 h) := by
  intro r e
  unfold gM_remember at e
  cases hc : (Nat.beq q 232 && Nat.ble 452 N) with
  | false => rw [hc] at e; cases e
  | true =>
    rw [hc, cond_true] at e
    rw [Bool.and_eq_true] at hc
    have h1 := Nat.eq_of_beq_eq_true hc.1
    subst h1
    obtain ⟨m, hm⟩ := zs_at N hc.2
    obtain ⟨vs, h2, e⟩ := b1_some e
    cases hd : (zs_ref vs 1 234 && zs_ref vs 2 235) with
    | false => rw [hd] at e; cases e
    | true =>
      rw [hd, cond_true] at e
      rw [Bool.and_eq_true] at hd
      obtain ⟨B, h3, e⟩ := b1_some e
      obtain ⟨P, h4, e⟩ := b1_some e
      obtain ⟨c, h5, e⟩ := b1_some e
      cases hL : Nat.blt c 8 with
      | false => rw [hL] at e; cases e
      | true =>
        rw [hL, cond_true] at e
        have hL : c < 8 := Nat.le_of_ble_eq_true hL
        obtain ⟨w1, w2, w3, w4⟩ := zs_row_some h3
        obtain ⟨v1, v2, v3, v4⟩ := zs_row_some h4
        have eq := zs_vs_some h2
        have e4 := zs_nat_some h5
        have h6 := zg_remember_54 (N := N) (n := m) (q := 232) (b := 234) (p := 235) (l1 := l1) (by decide) (by decide) (by decide) (by decide) eq (zs_ref_some hd.1) (zs_ref_some hd.2) e4 w1 w2 w3 v4 hL 451 0 rfl P v2
        rw [← hm, zs_same v1] at h6
        unfold fM_remember
        rw [show fT h 232 5 = true by unfold fT; rw [zh_hg (by decide) eq]; rfl, cond_true, zh_I (by decide) eq e4, b1]
        have h7 : z_cmp .ne (Int32.ofInt (c : Int)) (Int32.ofInt 8) = true := by
          show (!decide (Int32.ofInt (c : Int) = Int32.ofInt 8)) = true
          rw [Bool.not_eq_true', decide_eq_false_iff_not]
          intro h8
          have h9 := congrArg Int32.toInt h8
          rw [Int32.toInt_ofInt_of_le (by omega) (by omega), Int32.toInt_ofInt_of_le (by decide) (by decide)] at h9
          omega
        rw [h7, cond_true]
        exact h6.trans e
/-- saveSnapshot -/
theorem zg_saveSnapshot_12 {N q w b n : Nat} {h : zH} {vs W : List Value} (hq : q < 1000000) (hw : w < 1000000) (hqb : b ≠ q) (hwb : b ≠ w) (eq : h[q]? = some (5, vs)) (e0 : vs[0]? = some (.ref w)) (e1 : vs[3]? = some (.ref b)) (ew : h[w]? = some (100, W)) (hW : W.length = 451) (hI : ∀ i, i < 451 → ∃ x, W[i]? = some (.int x)) (hb : b < h.length) : ∀ k i : Nat, i + k = 451 → ∀ B : List Value, B.length = 451 → B.take i = W.take i → fM_saveSnapshot_12 N (n + 1 + k) q (Int32.ofInt i) (h.set b (100, B)) = fM_saveSnapshot_12 N (n + 1) q (Int32.ofInt 451) (h.set b (100, W)) := by
  intro k
  induction k with
  | zero =>
    intro i hi B hB hBW
    have hi' : i = 451 := by omega
    subst hi'
    rw [List.take_of_length_le (by omega), List.take_of_length_le (by omega)] at hBW
    rw [hBW]
    rfl
  | succ k ih =>
    intro i hi B hB hBW
    obtain ⟨x, hx⟩ := hI i (by omega)
    have eb : (h.set b (100, B))[b]? = some (100, B) := List.getElem?_set_self hb
    rw [show n + 1 + (k + 1) = (n + 1 + k) + 1 by omega, fM_saveSnapshot_12, zh_ge i 451 (by omega) (by decide), decide_eq_false (by omega), cond_false,
      zh_R hq ((zh_set hqb).trans eq) e1, b1, zh_R hq ((zh_set hqb).trans eq) e0, b1, zh_AI hw ((zh_set hwb).trans ew) hx (by omega), b1, zh_AS eb (by omega) (by omega), b1, zh_inc, List.set_set]
    refine ih (i + 1) (by omega) (B.set i (.int x)) (by rw [List.length_set]; exact hB) ?_
    rw [List.take_add_one, List.take_add_one, List.take_set_of_le (Nat.le_refl _), hBW, hx]
    congr 1
    rw [List.getElem?_set_self (by omega)]
def gM_saveSnapshot_12 (N n : Nat) (q : Nat) (l1 : Int32) (h : zH) : Option (Int32 × zH) := cond (Nat.beq q 232 && Nat.ble 452 n && z_cmp .eq l1 (Int32.ofInt 0)) (b1 (zs_vs h 232) fun vs => cond (zs_ref vs 0 233 && zs_ref vs 3 236) (b1 (zs_row h 233 451) fun W => b1 (zs_row h 236 451) fun _ => fM_saveSnapshot_12 N (n - 451) q (Int32.ofInt 451) (h.set 236 (100, W))) none) none
theorem gfM_saveSnapshot_12 {N n q : Nat} {l1 : Int32} {h : zH} : zL (gM_saveSnapshot_12 N n q l1 h) (fM_saveSnapshot_12 N n q l1 h) := by
  intro r e
  unfold gM_saveSnapshot_12 at e
  cases hc : (Nat.beq q 232 && Nat.ble 452 n && z_cmp .eq l1 (Int32.ofInt 0)) with
  | false => rw [hc] at e; cases e
  | true =>
    rw [hc, cond_true] at e
    rw [Bool.and_eq_true, Bool.and_eq_true] at hc
    have h1 := Nat.eq_of_beq_eq_true hc.1.1
    subst h1
    have h0 : l1 = Int32.ofInt 0 := of_decide_eq_true hc.2
    subst h0
    obtain ⟨m, hm⟩ := zs_at n hc.1.2
    obtain ⟨vs, h2, e⟩ := b1_some e
    cases hd : (zs_ref vs 0 233 && zs_ref vs 3 236) with
    | false => rw [hd] at e; cases e
    | true =>
      rw [hd, cond_true] at e
      rw [Bool.and_eq_true] at hd
      obtain ⟨W, h3, e⟩ := b1_some e
      obtain ⟨B, h4, e⟩ := b1_some e
      obtain ⟨w1, w2, w3, w4⟩ := zs_row_some h3
      obtain ⟨v1, v2, v3, v4⟩ := zs_row_some h4
      have h5 := zg_saveSnapshot_12 (N := N) (n := m) (q := 232) (w := 233) (b := 236) (by decide) (by decide) (by decide) (by decide) (zs_vs_some h2) (zs_ref_some hd.1) (zs_ref_some hd.2) w1 w2 w3 v4 451 0 rfl B v2 rfl
      rw [zs_same v1, ← hm] at h5
      refine h5.trans ?_
      rw [show n - 451 = m + 1 by omega] at e
      exact e
/-- runScript, after an error -/
theorem zg_runScript_59 {N q w b n : Nat} {h : zH} {vs W : List Value} (hq : q < 1000000) (hw : w < 1000000) (hqb : b ≠ q) (hwb : b ≠ w) (eq : h[q]? = some (5, vs)) (e0 : vs[1]? = some (.ref w)) (e1 : vs[0]? = some (.ref b)) (ew : h[w]? = some (100, W)) (hW : W.length = 451) (hI : ∀ i, i < 451 → ∃ x, W[i]? = some (.int x)) (hb : b < h.length) : ∀ k i : Nat, i + k = 451 → ∀ B : List Value, B.length = 451 → B.take i = W.take i → fM_runScript_59 N (n + 1 + k) q (Int32.ofInt i) (h.set b (100, B)) = fM_runScript_59 N (n + 1) q (Int32.ofInt 451) (h.set b (100, W)) := by
  intro k
  induction k with
  | zero =>
    intro i hi B hB hBW
    have hi' : i = 451 := by omega
    subst hi'
    rw [List.take_of_length_le (by omega), List.take_of_length_le (by omega)] at hBW
    rw [hBW]
    rfl
  | succ k ih =>
    intro i hi B hB hBW
    obtain ⟨x, hx⟩ := hI i (by omega)
    have eb : (h.set b (100, B))[b]? = some (100, B) := List.getElem?_set_self hb
    rw [show n + 1 + (k + 1) = (n + 1 + k) + 1 by omega, fM_runScript_59, zh_ge i 451 (by omega) (by decide), decide_eq_false (by omega), cond_false,
      zh_R hq ((zh_set hqb).trans eq) e1, b1, zh_R hq ((zh_set hqb).trans eq) e0, b1, zh_AI hw ((zh_set hwb).trans ew) hx (by omega), b1, zh_AS eb (by omega) (by omega), b1, zh_inc, List.set_set]
    refine ih (i + 1) (by omega) (B.set i (.int x)) (by rw [List.length_set]; exact hB) ?_
    rw [List.take_add_one, List.take_add_one, List.take_set_of_le (Nat.le_refl _), hBW, hx]
    congr 1
    rw [List.getElem?_set_self (by omega)]
def gM_runScript_59 (N n : Nat) (q : Nat) (l1 : Int32) (h : zH) : Option (Int32 × zH) := cond (Nat.beq q 232 && Nat.ble 452 n && z_cmp .eq l1 (Int32.ofInt 0)) (b1 (zs_vs h 232) fun vs => cond (zs_ref vs 1 234 && zs_ref vs 0 233) (b1 (zs_row h 234 451) fun W => b1 (zs_row h 233 451) fun _ => fM_runScript_59 N (n - 451) q (Int32.ofInt 451) (h.set 233 (100, W))) none) none
theorem gfM_runScript_59 {N n q : Nat} {l1 : Int32} {h : zH} : zL (gM_runScript_59 N n q l1 h) (fM_runScript_59 N n q l1 h) := by
  intro r e
  unfold gM_runScript_59 at e
  cases hc : (Nat.beq q 232 && Nat.ble 452 n && z_cmp .eq l1 (Int32.ofInt 0)) with
  | false => rw [hc] at e; cases e
  | true =>
    rw [hc, cond_true] at e
    rw [Bool.and_eq_true, Bool.and_eq_true] at hc
    have h1 := Nat.eq_of_beq_eq_true hc.1.1
    subst h1
    have h0 : l1 = Int32.ofInt 0 := of_decide_eq_true hc.2
    subst h0
    obtain ⟨m, hm⟩ := zs_at n hc.1.2
    obtain ⟨vs, h2, e⟩ := b1_some e
    cases hd : (zs_ref vs 1 234 && zs_ref vs 0 233) with
    | false => rw [hd] at e; cases e
    | true =>
      rw [hd, cond_true] at e
      rw [Bool.and_eq_true] at hd
      obtain ⟨W, h3, e⟩ := b1_some e
      obtain ⟨B, h4, e⟩ := b1_some e
      obtain ⟨w1, w2, w3, w4⟩ := zs_row_some h3
      obtain ⟨v1, v2, v3, v4⟩ := zs_row_some h4
      have h5 := zg_runScript_59 (N := N) (n := m) (q := 232) (w := 234) (b := 233) (by decide) (by decide) (by decide) (by decide) (zs_vs_some h2) (zs_ref_some hd.1) (zs_ref_some hd.2) w1 w2 w3 v4 451 0 rfl B v2 rfl
      rw [zs_same v1, ← hm] at h5
      refine h5.trans ?_
      rw [show n - 451 = m + 1 by omega] at e
      exact e
/-- parses: the row is emptied -/
theorem zg_parses_2 {N q w n : Nat} {h : zH} {vs : List Value} (hq : q < 1000000) (hqw : w ≠ q) (eq : h[q]? = some (5, vs)) (e0 : vs[0]? = some (.ref w)) (hw : w < h.length) : ∀ k i : Nat, i + k = 451 → ∀ W : List Value, W.length = 451 → W.take i = List.replicate i (Value.int (Int32.ofInt 0)) → fM_parses_2 N (n + 1 + k) q (Int32.ofInt i) (h.set w (100, W)) = fM_parses_2 N (n + 1) q (Int32.ofInt 451) (h.set w (100, List.replicate 451 (Value.int (Int32.ofInt 0)))) := by
  intro k
  induction k with
  | zero =>
    intro i hi W hW hWr
    have hi' : i = 451 := by omega
    subst hi'
    rw [List.take_of_length_le (by omega)] at hWr
    rw [hWr]
    rfl
  | succ k ih =>
    intro i hi W hW hWr
    have ew : (h.set w (100, W))[w]? = some (100, W) := List.getElem?_set_self hw
    rw [show n + 1 + (k + 1) = (n + 1 + k) + 1 by omega, fM_parses_2, zh_ge i 451 (by omega) (by decide), decide_eq_false (by omega), cond_false,
      zh_R hq ((zh_set hqw).trans eq) e0, b1, zh_AS ew (by omega) (by omega), b1, zh_inc, List.set_set]
    refine ih (i + 1) (by omega) (W.set i (.int (Int32.ofInt 0))) (by rw [List.length_set]; exact hW) ?_
    rw [List.take_add_one, List.take_set_of_le (Nat.le_refl _), hWr, List.getElem?_set_self (by omega), List.replicate_succ']
    rfl
def gM_parses_2 (N n : Nat) (q : Nat) (l1 : Int32) (h : zH) : Option (Int32 × zH) := cond (Nat.beq q 232 && Nat.ble 452 n && z_cmp .eq l1 (Int32.ofInt 0)) (b1 (zs_vs h 232) fun vs => cond (zs_ref vs 0 233) (b1 (zs_row h 233 451) fun _ => fM_parses_2 N (n - 451) q (Int32.ofInt 451) (h.set 233 (100, List.replicate 451 (Value.int (Int32.ofInt 0))))) none) none
theorem gfM_parses_2 {N n q : Nat} {l1 : Int32} {h : zH} : zL (gM_parses_2 N n q l1 h) (fM_parses_2 N n q l1 h) := by
  intro r e
  unfold gM_parses_2 at e
  cases hc : (Nat.beq q 232 && Nat.ble 452 n && z_cmp .eq l1 (Int32.ofInt 0)) with
  | false => rw [hc] at e; cases e
  | true =>
    rw [hc, cond_true] at e
    rw [Bool.and_eq_true, Bool.and_eq_true] at hc
    have h1 := Nat.eq_of_beq_eq_true hc.1.1
    subst h1
    have h0 : l1 = Int32.ofInt 0 := of_decide_eq_true hc.2
    subst h0
    obtain ⟨m, hm⟩ := zs_at n hc.1.2
    obtain ⟨vs, h2, e⟩ := b1_some e
    cases hd : zs_ref vs 0 233 with
    | false => rw [hd] at e; cases e
    | true =>
      rw [hd, cond_true] at e
      obtain ⟨W, h3, e⟩ := b1_some e
      obtain ⟨w1, w2, w3, w4⟩ := zs_row_some h3
      have h5 := zg_parses_2 (N := N) (n := m) (q := 232) (w := 233) (by decide) (by decide) (zs_vs_some h2) (zs_ref_some hd) w4 451 0 rfl W w2 rfl
      rw [zs_same w1, ← hm] at h5
      refine h5.trans ?_
      rw [show n - 451 = m + 1 by omega] at e
      exact e
theorem zg_joins_34 {N : Nat} {k k' : Nat → Int32 → Int32 → zH → Option (Int32 × zH)} (hk : ∀ a b c h, zL (k a b c h) (k' a b c h)) : ∀ {n : Nat} {x1 : Nat} {x2 x3 x4 x5 : Int32} {h : zH}, zL (fM_joins_34 N n k x1 x2 x3 x4 x5 h) (fM_joins_34 N n k' x1 x2 x3 x4 x5 h) := by
  intro n
  induction n with
  | zero => intros; exact zL_n
  | succ n ih =>
    intros
    rw [fM_joins_34, fM_joins_34]
    repeat (first | exact hk _ _ _ _ | exact ih | exact zL_r | refine zL_c ?_ ?_ | refine zL_1 fun _ => ?_ | refine zL_2 ?_ fun _ _ => ?_)
def gM_setLetters_35 (N : Nat)  (l0 : Nat) (l1 : Int32) (s0 : Int32) (s1 : Int32) (s2 : Nat) (h : zH) : Option (Int32 × zH) := b2 (fM_throwsOne2 N s2 s1 s0 h) fun x3 h4 => cond (z_cmp .eq x3 (Int32.ofInt 0)) (b2 (gM_begins N l0 h4) fun _ h6 => b1 (fR h6 l0 5 0) fun x7 => b1 (fAI h6 x7 100 (Int32.ofInt 0)) fun x8 => b1 (fR h6 l0 5 0) fun x9 => b1 (fAS h6 x9 100 (Int32.ofInt 0) (.int l1)) fun h10 => b2 (gM_remember N l0 x8 h10) fun x11 h12 => some (x11, h12)) (some ((Int32.ofInt 0), h4))
theorem gfM_setLetters_35 {N : Nat} {l0 : Nat} {l1 : Int32} {s0 : Int32} {s1 : Int32} {s2 : Nat} {h : zH} : zL (gM_setLetters_35 N l0 l1 s0 s1 s2 h) (fM_setLetters_35 N l0 l1 s0 s1 s2 h) := by
  unfold gM_setLetters_35 fM_setLetters_35
  repeat (first | exact zL_r | exact zL_n | exact gfM_begins | exact gfM_remember | refine zL_c ?_ ?_ | refine zL_1 fun _ => ?_ | refine zL_2 ?_ fun _ _ => ?_)
def gM_setLetters_34 (N : Nat)  (l0 : Nat) (l1 : Int32) (s0 : Int32) (s1 : Nat) (h : zH) : Option (Int32 × zH) := gM_setLetters_35 N  l0 l1 (Int32.ofInt 0) s0 s1 h
theorem gfM_setLetters_34 {N : Nat} {l0 : Nat} {l1 : Int32} {s0 : Int32} {s1 : Nat} {h : zH} : zL (gM_setLetters_34 N l0 l1 s0 s1 h) (fM_setLetters_34 N l0 l1 s0 s1 h) := by
  unfold gM_setLetters_34 fM_setLetters_34
  repeat (first | exact zL_r | exact zL_n | exact gfM_setLetters_35 | refine zL_c ?_ ?_ | refine zL_1 fun _ => ?_ | refine zL_2 ?_ fun _ _ => ?_)
def gM_setLetters_15 (N : Nat)  (l0 : Nat) (l1 : Int32) (s0 : Int32) (h : zH) : Option (Int32 × zH) := cond (z_cmp .ne s0 (Int32.ofInt 0)) (gM_setLetters_34 N  l0 l1 s0 l0 h) (b2 (fM_canHave N l0 l1 h) fun x3 h4 => cond (z_cmp .ne x3 (Int32.ofInt 0)) (gM_setLetters_34 N  l0 l1 s0 l0 h4) (gM_setLetters_35 N  l0 l1 (Int32.ofInt 1) s0 l0 h4))
theorem gfM_setLetters_15 {N : Nat} {l0 : Nat} {l1 : Int32} {s0 : Int32} {h : zH} : zL (gM_setLetters_15 N l0 l1 s0 h) (fM_setLetters_15 N l0 l1 s0 h) := by
  unfold gM_setLetters_15 fM_setLetters_15
  repeat (first | exact zL_r | exact zL_n | exact gfM_setLetters_34 | exact gfM_setLetters_35 | refine zL_c ?_ ?_ | refine zL_1 fun _ => ?_ | refine zL_2 ?_ fun _ _ => ?_)
def gM_setLetters (N : Nat) (l0 : Nat) (l1 : Int32) (h : zH) : Option (Int32 × zH) := cond (fT h l0 5) (b2 (fM_in N l1 (Int32.ofInt 2) (Int32.ofInt 9) h) fun x1 h2 => cond (z_cmp .ne x1 (Int32.ofInt 0)) (gM_setLetters_15 N  l0 l1 (Int32.ofInt 0) h2) (gM_setLetters_15 N  l0 l1 (Int32.ofInt 1) h2)) none
theorem gfM_setLetters {N : Nat} {l0 : Nat} {l1 : Int32} {h : zH} : zL (gM_setLetters N l0 l1 h) (fM_setLetters N l0 l1 h) := by
  unfold gM_setLetters fM_setLetters
  repeat (first | exact zL_r | exact zL_n | exact gfM_setLetters_15 | refine zL_c ?_ ?_ | refine zL_1 fun _ => ?_ | refine zL_2 ?_ fun _ _ => ?_)
def gM_readText_60 (N : Nat) : Nat → Nat → Int32 → Int32 → zH → Option (Int32 × zH)
  | 0, _, _, _, _ => none
  | n + 1, l0, l1, l2, h => cond (z_cmp .ge l2 l1) (b1 (fS h l0 5 10 (.int (Int32.ofInt 0))) fun h7 => b2 (gM_takes N l0 h7) fun x8 h9 => b2 (gM_remember N l0 x8 h9) fun x10 h11 => some (x10, h11)) (b1 (fR h l0 5 6) fun x12 => b1 (fAI h x12 100 l2) fun x13 => b2 (fM_adds N l0 (x13 - (Int32.ofInt 97)) h) fun _ h15 => gM_readText_60 N n  l0 l1 (l2 + Int32.ofInt 1) h15)
theorem gfM_readText_60 {N : Nat} : ∀ {n : Nat} {x1 : Nat} {x2 : Int32} {x3 : Int32} {x4 : zH}, zL (gM_readText_60 N n x1 x2 x3 x4) (fM_readText_60 N n x1 x2 x3 x4) := by
  intro n
  induction n with
  | zero => intros; exact zL_n
  | succ n ih =>
    intros
    rw [gM_readText_60, fM_readText_60]
    repeat (first | exact zL_r | exact ih | exact zL_n | exact gfM_takes | exact gfM_remember | refine zL_c ?_ ?_ | refine zL_1 fun _ => ?_ | refine zL_2 ?_ fun _ _ => ?_)
def gM_readText_41 (N : Nat)  (l0 : Nat) (l1 : Int32) (s0 : Int32) (s1 : Nat) (h : zH) : Option (Int32 × zH) := b2 (fM_throwsOne N s1 s0 h) fun x2 h3 => cond (z_cmp .eq x2 (Int32.ofInt 0)) (b2 (gM_begins N l0 h3) fun _ h5 => b1 (fS h5 l0 5 14 (.int (Int32.ofInt 0))) fun h6 => gM_readText_60 N N  l0 l1 (Int32.ofInt 0) h6) (some ((Int32.ofInt 0), h3))
theorem gfM_readText_41 {N : Nat} {l0 : Nat} {l1 : Int32} {s0 : Int32} {s1 : Nat} {h : zH} : zL (gM_readText_41 N l0 l1 s0 s1 h) (fM_readText_41 N l0 l1 s0 s1 h) := by
  unfold gM_readText_41 fM_readText_41
  repeat (first | exact zL_r | exact zL_n | exact gfM_begins | exact gfM_readText_60 | refine zL_c ?_ ?_ | refine zL_1 fun _ => ?_ | refine zL_2 ?_ fun _ _ => ?_)
def gM_readText_29 (N : Nat)  (l0 : Nat) (l1 : Int32) (h : zH) : Option (Int32 × zH) := cond (z_cmp .le l1 (Int32.ofInt 120)) (gM_readText_41 N  l0 l1 (Int32.ofInt 0) l0 h) (gM_readText_41 N  l0 l1 (Int32.ofInt 1) l0 h)
theorem gfM_readText_29 {N : Nat} {l0 : Nat} {l1 : Int32} {h : zH} : zL (gM_readText_29 N l0 l1 h) (fM_readText_29 N l0 l1 h) := by
  unfold gM_readText_29 fM_readText_29
  repeat (first | exact zL_r | exact zL_n | exact gfM_readText_41 | refine zL_c ?_ ?_ | refine zL_1 fun _ => ?_ | refine zL_2 ?_ fun _ _ => ?_)
def gM_readText_2 (N : Nat) : Nat → Nat → Int32 → zH → Option (Int32 × zH)
  | 0, _, _, _ => none
  | n + 1, l0, l1, h => b1 (fI h l0 5 10) fun x1 => cond (z_cmp .ge l1 x1) (gM_readText_29 N  l0 l1 h) (b1 (fR h l0 5 6) fun x2 => b1 (fAI h x2 100 l1) fun x3 => b2 (fM_isLetter N l0 x3 h) fun x4 h5 => cond (z_cmp .eq x4 (Int32.ofInt 0)) (gM_readText_29 N  l0 l1 h5) (gM_readText_2 N n  l0 (l1 + Int32.ofInt 1) h5))
theorem gfM_readText_2 {N : Nat} : ∀ {n : Nat} {x1 : Nat} {x2 : Int32} {x3 : zH}, zL (gM_readText_2 N n x1 x2 x3) (fM_readText_2 N n x1 x2 x3) := by
  intro n
  induction n with
  | zero => intros; exact zL_n
  | succ n ih =>
    intros
    rw [gM_readText_2, fM_readText_2]
    repeat (first | exact zL_r | exact ih | exact zL_n | exact gfM_readText_29 | refine zL_c ?_ ?_ | refine zL_1 fun _ => ?_ | refine zL_2 ?_ fun _ _ => ?_)
def gM_readText (N : Nat) (l0 : Nat) (h : zH) : Option (Int32 × zH) := cond (fT h l0 5) (gM_readText_2 N N  l0 (Int32.ofInt 0) h) none
theorem gfM_readText {N : Nat} {l0 : Nat} {h : zH} : zL (gM_readText N l0 h) (fM_readText N l0 h) := by
  unfold gM_readText fM_readText
  repeat (first | exact zL_r | exact zL_n | exact gfM_readText_2 | refine zL_c ?_ ?_ | refine zL_1 fun _ => ?_ | refine zL_2 ?_ fun _ _ => ?_)
def gM_appends (N : Nat) (l0 : Nat) (l1 : Int32) (h : zH) : Option (Int32 × zH) := cond (fT h l0 5) (b2 (fM_loads N l0 h) fun _ h2 => b2 (fM_adds N l0 l1 h2) fun _ h4 => b2 (gM_takes N l0 h4) fun x5 h6 => b2 (fM_factors N l0 h6) fun x7 h8 => some (x7, h8)) none
theorem gfM_appends {N : Nat} {l0 : Nat} {l1 : Int32} {h : zH} : zL (gM_appends N l0 l1 h) (fM_appends N l0 l1 h) := by
  unfold gM_appends fM_appends
  repeat (first | exact zL_r | exact zL_n | exact gfM_takes | refine zL_c ?_ ?_ | refine zL_1 fun _ => ?_ | refine zL_2 ?_ fun _ _ => ?_)
def gM_appendLetter_30 (N : Nat)  (l0 : Nat) (l1 : Int32) (s0 : Int32) (s1 : Int32) (s2 : Nat) (h : zH) : Option (Int32 × zH) := b2 (fM_throwsOne2 N s2 s1 s0 h) fun x5 h6 => cond (z_cmp .eq x5 (Int32.ofInt 0)) (b2 (gM_begins N l0 h6) fun _ h8 => b2 (gM_appends N l0 (l1 - (Int32.ofInt 97)) h8) fun x9 h10 => b2 (gM_remember N l0 x9 h10) fun x11 h12 => some (x11, h12)) (some ((Int32.ofInt 0), h6))
theorem gfM_appendLetter_30 {N : Nat} {l0 : Nat} {l1 : Int32} {s0 : Int32} {s1 : Int32} {s2 : Nat} {h : zH} : zL (gM_appendLetter_30 N l0 l1 s0 s1 s2 h) (fM_appendLetter_30 N l0 l1 s0 s1 s2 h) := by
  unfold gM_appendLetter_30 fM_appendLetter_30
  repeat (first | exact zL_r | exact zL_n | exact gfM_begins | exact gfM_appends | exact gfM_remember | refine zL_c ?_ ?_ | refine zL_1 fun _ => ?_ | refine zL_2 ?_ fun _ _ => ?_)
def gM_appendLetter_14 (N : Nat)  (l0 : Nat) (l1 : Int32) (s0 : Int32) (s1 : Nat) (h : zH) : Option (Int32 × zH) := b1 (fR h l0 5 0) fun x3 => b1 (fAI h x3 100 (Int32.ofInt 1)) fun x4 => cond (z_cmp .ne x4 (Int32.ofInt 120)) (gM_appendLetter_30 N  l0 l1 (Int32.ofInt 0) s0 s1 h) (gM_appendLetter_30 N  l0 l1 (Int32.ofInt 1) s0 s1 h)
theorem gfM_appendLetter_14 {N : Nat} {l0 : Nat} {l1 : Int32} {s0 : Int32} {s1 : Nat} {h : zH} : zL (gM_appendLetter_14 N l0 l1 s0 s1 h) (fM_appendLetter_14 N l0 l1 s0 s1 h) := by
  unfold gM_appendLetter_14 fM_appendLetter_14
  repeat (first | exact zL_r | exact zL_n | exact gfM_appendLetter_30 | refine zL_c ?_ ?_ | refine zL_1 fun _ => ?_ | refine zL_2 ?_ fun _ _ => ?_)
def gM_appendLetter (N : Nat) (l0 : Nat) (l1 : Int32) (h : zH) : Option (Int32 × zH) := cond (fT h l0 5) (b2 (fM_isLetter N l0 l1 h) fun x1 h2 => cond (z_cmp .ne x1 (Int32.ofInt 0)) (gM_appendLetter_14 N  l0 l1 (Int32.ofInt 0) l0 h2) (gM_appendLetter_14 N  l0 l1 (Int32.ofInt 1) l0 h2)) none
theorem gfM_appendLetter {N : Nat} {l0 : Nat} {l1 : Int32} {h : zH} : zL (gM_appendLetter N l0 l1 h) (fM_appendLetter N l0 l1 h) := by
  unfold gM_appendLetter fM_appendLetter
  repeat (first | exact zL_r | exact zL_n | exact gfM_appendLetter_14 | refine zL_c ?_ ?_ | refine zL_1 fun _ => ?_ | refine zL_2 ?_ fun _ _ => ?_)
def gM_drops (N : Nat) (l0 : Nat) (l1 : Int32) (h : zH) : Option (Int32 × zH) := cond (fT h l0 5) (b2 (fM_loads N l0 h) fun _ h2 => b1 (fI h2 l0 5 14) fun x3 => b1 (fS h2 l0 5 14 (.int (x3 - l1))) fun h4 => b2 (gM_takes N l0 h4) fun x5 h6 => b2 (fM_factors N l0 h6) fun x7 h8 => some (x7, h8)) none
theorem gfM_drops {N : Nat} {l0 : Nat} {l1 : Int32} {h : zH} : zL (gM_drops N l0 l1 h) (fM_drops N l0 l1 h) := by
  unfold gM_drops fM_drops
  repeat (first | exact zL_r | exact zL_n | exact gfM_takes | refine zL_c ?_ ?_ | refine zL_1 fun _ => ?_ | refine zL_2 ?_ fun _ _ => ?_)
def gM_dropLast_20 (N : Nat)  (l0 : Nat) (l1 : Int32) (s0 : Int32) (s1 : Nat) (h : zH) : Option (Int32 × zH) := b2 (fM_throwsOne N s1 s0 h) fun x5 h6 => cond (z_cmp .eq x5 (Int32.ofInt 0)) (b2 (gM_begins N l0 h6) fun _ h8 => b2 (gM_drops N l0 l1 h8) fun x9 h10 => b2 (gM_remember N l0 x9 h10) fun x11 h12 => some (x11, h12)) (some ((Int32.ofInt 0), h6))
theorem gfM_dropLast_20 {N : Nat} {l0 : Nat} {l1 : Int32} {s0 : Int32} {s1 : Nat} {h : zH} : zL (gM_dropLast_20 N l0 l1 s0 s1 h) (fM_dropLast_20 N l0 l1 s0 s1 h) := by
  unfold gM_dropLast_20 fM_dropLast_20
  repeat (first | exact zL_r | exact zL_n | exact gfM_begins | exact gfM_drops | exact gfM_remember | refine zL_c ?_ ?_ | refine zL_1 fun _ => ?_ | refine zL_2 ?_ fun _ _ => ?_)
def gM_dropLast (N : Nat) (l0 : Nat) (l1 : Int32) (h : zH) : Option (Int32 × zH) := cond (fT h l0 5) (b1 (fR h l0 5 0) fun x1 => b1 (fAI h x1 100 (Int32.ofInt 1)) fun x2 => b2 (fM_in N l1 (Int32.ofInt 0) x2 h) fun x3 h4 => cond (z_cmp .ne x3 (Int32.ofInt 0)) (gM_dropLast_20 N  l0 l1 (Int32.ofInt 0) l0 h4) (gM_dropLast_20 N  l0 l1 (Int32.ofInt 1) l0 h4)) none
theorem gfM_dropLast {N : Nat} {l0 : Nat} {l1 : Int32} {h : zH} : zL (gM_dropLast N l0 l1 h) (fM_dropLast N l0 l1 h) := by
  unfold gM_dropLast fM_dropLast
  repeat (first | exact zL_r | exact zL_n | exact gfM_dropLast_20 | refine zL_c ?_ ?_ | refine zL_1 fun _ => ?_ | refine zL_2 ?_ fun _ _ => ?_)
def gM_parts_9 (N : Nat) : Nat → Nat → Int32 → Int32 → Int32 → zH → Option (Int32 × zH)
  | 0, _, _, _, _, _ => none
  | n + 1, l0, l1, l2, l3, h => cond (z_cmp .ge l3 l2) (b2 (gM_takes N l0 h) fun x2 h3 => some (x2, h3)) (b1 (fR h l0 5 8) fun x4 => b1 (fR h l0 5 0) fun x5 => b1 (fAI h x5 100 ((Int32.ofInt 3) + l3)) fun x6 => b1 (fAS h x4 100 (l3 - l1) (.int x6)) fun h7 => gM_parts_9 N n  l0 l1 l2 (l3 + Int32.ofInt 1) h7)
theorem gfM_parts_9 {N : Nat} : ∀ {n : Nat} {x1 : Nat} {x2 : Int32} {x3 : Int32} {x4 : Int32} {x5 : zH}, zL (gM_parts_9 N n x1 x2 x3 x4 x5) (fM_parts_9 N n x1 x2 x3 x4 x5) := by
  intro n
  induction n with
  | zero => intros; exact zL_n
  | succ n ih =>
    intros
    rw [gM_parts_9, fM_parts_9]
    repeat (first | exact zL_r | exact ih | exact zL_n | exact gfM_takes | refine zL_c ?_ ?_ | refine zL_1 fun _ => ?_ | refine zL_2 ?_ fun _ _ => ?_)
def gM_parts (N : Nat) (l0 : Nat) (l1 : Int32) (l2 : Int32) (h : zH) : Option (Int32 × zH) := cond (fT h l0 5) (b1 (fS h l0 5 14 (.int (l2 - l1))) fun h1 => gM_parts_9 N N  l0 l1 l2 l1 h1) none
theorem gfM_parts {N : Nat} {l0 : Nat} {l1 : Int32} {l2 : Int32} {h : zH} : zL (gM_parts N l0 l1 l2 h) (fM_parts N l0 l1 l2 h) := by
  unfold gM_parts fM_parts
  repeat (first | exact zL_r | exact zL_n | exact gfM_parts_9 | refine zL_c ?_ ?_ | refine zL_1 fun _ => ?_ | refine zL_2 ?_ fun _ _ => ?_)
def gM_cutPart_25 (N : Nat)  (l0 : Nat) (l1 : Int32) (l2 : Int32) (s0 : Int32) (s1 : Nat) (h : zH) : Option (Int32 × zH) := b2 (fM_throwsOne N s1 s0 h) fun x1 h2 => cond (z_cmp .eq x1 (Int32.ofInt 0)) (b2 (gM_begins N l0 h2) fun _ h4 => b2 (gM_parts N l0 l1 l2 h4) fun x5 h6 => b2 (gM_remember N l0 x5 h6) fun x7 h8 => some (x7, h8)) (some ((Int32.ofInt 0), h2))
theorem gfM_cutPart_25 {N : Nat} {l0 : Nat} {l1 : Int32} {l2 : Int32} {s0 : Int32} {s1 : Nat} {h : zH} : zL (gM_cutPart_25 N l0 l1 l2 s0 s1 h) (fM_cutPart_25 N l0 l1 l2 s0 s1 h) := by
  unfold gM_cutPart_25 fM_cutPart_25
  repeat (first | exact zL_r | exact zL_n | exact gfM_begins | exact gfM_parts | exact gfM_remember | refine zL_c ?_ ?_ | refine zL_1 fun _ => ?_ | refine zL_2 ?_ fun _ _ => ?_)
def gM_cutPart_20 (N : Nat)  (l0 : Nat) (l1 : Int32) (l2 : Int32) (s0 : Nat) (h : zH) : Option (Int32 × zH) := gM_cutPart_25 N  l0 l1 l2 (Int32.ofInt 1) s0 h
theorem gfM_cutPart_20 {N : Nat} {l0 : Nat} {l1 : Int32} {l2 : Int32} {s0 : Nat} {h : zH} : zL (gM_cutPart_20 N l0 l1 l2 s0 h) (fM_cutPart_20 N l0 l1 l2 s0 h) := by
  unfold gM_cutPart_20 fM_cutPart_20
  repeat (first | exact zL_r | exact zL_n | exact gfM_cutPart_25 | refine zL_c ?_ ?_ | refine zL_1 fun _ => ?_ | refine zL_2 ?_ fun _ _ => ?_)
def gM_cutPart (N : Nat) (l0 : Nat) (l1 : Int32) (l2 : Int32) (h : zH) : Option (Int32 × zH) := cond (fT h l0 5) (cond (z_cmp .lt l1 (Int32.ofInt 0)) (gM_cutPart_20 N  l0 l1 l2 l0 h) (cond (z_cmp .lt l2 l1) (gM_cutPart_20 N  l0 l1 l2 l0 h) (b1 (fR h l0 5 0) fun x1 => b1 (fAI h x1 100 (Int32.ofInt 1)) fun x2 => cond (z_cmp .le l2 x2) (gM_cutPart_25 N  l0 l1 l2 (Int32.ofInt 0) l0 h) (gM_cutPart_20 N  l0 l1 l2 l0 h)))) none
theorem gfM_cutPart {N : Nat} {l0 : Nat} {l1 : Int32} {l2 : Int32} {h : zH} : zL (gM_cutPart N l0 l1 l2 h) (fM_cutPart N l0 l1 l2 h) := by
  unfold gM_cutPart fM_cutPart
  repeat (first | exact zL_r | exact zL_n | exact gfM_cutPart_20 | exact gfM_cutPart_25 | refine zL_c ?_ ?_ | refine zL_1 fun _ => ?_ | refine zL_2 ?_ fun _ _ => ?_)
def gM_turns (N : Nat) (l0 : Nat) (l1 : Int32) (h : zH) : Option (Int32 × zH) := cond (fT h l0 5) (b1 (fR h l0 5 0) fun x1 => b1 (fAI h x1 100 (Int32.ofInt 1)) fun x2 => cond (z_cmp .le x2 (Int32.ofInt 0)) (fM_turns_19 N  l0 h) (b2 (fM_loadsRotated N l0 l1 h) fun _ h4 => b2 (gM_takes N l0 h4) fun x5 h6 => fM_turns_19 N  l0 h6)) none
theorem gfM_turns {N : Nat} {l0 : Nat} {l1 : Int32} {h : zH} : zL (gM_turns N l0 l1 h) (fM_turns N l0 l1 h) := by
  unfold gM_turns fM_turns
  repeat (first | exact zL_r | exact zL_n | exact gfM_takes | refine zL_c ?_ ?_ | refine zL_1 fun _ => ?_ | refine zL_2 ?_ fun _ _ => ?_)
def gM_rotate_20 (N : Nat)  (l0 : Nat) (l1 : Int32) (s0 : Int32) (s1 : Nat) (h : zH) : Option (Int32 × zH) := b2 (fM_throwsOne N s1 s0 h) fun x5 h6 => cond (z_cmp .eq x5 (Int32.ofInt 0)) (b2 (gM_begins N l0 h6) fun _ h8 => b2 (gM_turns N l0 l1 h8) fun x9 h10 => b2 (gM_remember N l0 x9 h10) fun x11 h12 => some (x11, h12)) (some ((Int32.ofInt 0), h6))
theorem gfM_rotate_20 {N : Nat} {l0 : Nat} {l1 : Int32} {s0 : Int32} {s1 : Nat} {h : zH} : zL (gM_rotate_20 N l0 l1 s0 s1 h) (fM_rotate_20 N l0 l1 s0 s1 h) := by
  unfold gM_rotate_20 fM_rotate_20
  repeat (first | exact zL_r | exact zL_n | exact gfM_begins | exact gfM_turns | exact gfM_remember | refine zL_c ?_ ?_ | refine zL_1 fun _ => ?_ | refine zL_2 ?_ fun _ _ => ?_)
def gM_rotate (N : Nat) (l0 : Nat) (l1 : Int32) (h : zH) : Option (Int32 × zH) := cond (fT h l0 5) (b1 (fR h l0 5 0) fun x1 => b1 (fAI h x1 100 (Int32.ofInt 1)) fun x2 => b2 (fM_in N l1 (Int32.ofInt 0) x2 h) fun x3 h4 => cond (z_cmp .ne x3 (Int32.ofInt 0)) (gM_rotate_20 N  l0 l1 (Int32.ofInt 0) l0 h4) (gM_rotate_20 N  l0 l1 (Int32.ofInt 1) l0 h4)) none
theorem gfM_rotate {N : Nat} {l0 : Nat} {l1 : Int32} {h : zH} : zL (gM_rotate N l0 l1 h) (fM_rotate N l0 l1 h) := by
  unfold gM_rotate fM_rotate
  repeat (first | exact zL_r | exact zL_n | exact gfM_rotate_20 | refine zL_c ?_ ?_ | refine zL_1 fun _ => ?_ | refine zL_2 ?_ fun _ _ => ?_)
def gM_mirrors_12 (N : Nat) : Nat → Nat → Int32 → zH → Option (Int32 × zH)
  | 0, _, _, _ => none
  | n + 1, l0, l1, h => b1 (fI h l0 5 14) fun x4 => cond (z_cmp .ge l1 x4) (b2 (gM_takes N l0 h) fun x5 h6 => b2 (fM_factors N l0 h6) fun x7 h8 => some (x7, h8)) (b1 (fR h l0 5 8) fun x9 => b1 (fR h l0 5 0) fun x10 => b1 (fI h l0 5 14) fun x11 => b1 (fAI h x10 100 ((((Int32.ofInt 3) + x11) - (Int32.ofInt 1)) - l1)) fun x12 => b1 (fAS h x9 100 l1 (.int x12)) fun h13 => gM_mirrors_12 N n  l0 (l1 + Int32.ofInt 1) h13)
theorem gfM_mirrors_12 {N : Nat} : ∀ {n : Nat} {x1 : Nat} {x2 : Int32} {x3 : zH}, zL (gM_mirrors_12 N n x1 x2 x3) (fM_mirrors_12 N n x1 x2 x3) := by
  intro n
  induction n with
  | zero => intros; exact zL_n
  | succ n ih =>
    intros
    rw [gM_mirrors_12, fM_mirrors_12]
    repeat (first | exact zL_r | exact ih | exact zL_n | exact gfM_takes | refine zL_c ?_ ?_ | refine zL_1 fun _ => ?_ | refine zL_2 ?_ fun _ _ => ?_)
def gM_mirrors (N : Nat) (l0 : Nat) (h : zH) : Option (Int32 × zH) := cond (fT h l0 5) (b1 (fR h l0 5 0) fun x1 => b1 (fAI h x1 100 (Int32.ofInt 1)) fun x2 => b1 (fS h l0 5 14 (.int x2)) fun h3 => gM_mirrors_12 N N  l0 (Int32.ofInt 0) h3) none
theorem gfM_mirrors {N : Nat} {l0 : Nat} {h : zH} : zL (gM_mirrors N l0 h) (fM_mirrors N l0 h) := by
  unfold gM_mirrors fM_mirrors
  repeat (first | exact zL_r | exact zL_n | exact gfM_mirrors_12 | refine zL_c ?_ ?_ | refine zL_1 fun _ => ?_ | refine zL_2 ?_ fun _ _ => ?_)
def gM_reverse (N : Nat) (l0 : Nat) (h : zH) : Option (Int32 × zH) := cond (fT h l0 5) (b1 (fS h l0 5 17 (.int (Int32.ofInt 0))) fun h1 => b2 (gM_begins N l0 h1) fun _ h3 => b2 (gM_mirrors N l0 h3) fun x4 h5 => b2 (gM_remember N l0 x4 h5) fun x6 h7 => some (x6, h7)) none
theorem gfM_reverse {N : Nat} {l0 : Nat} {h : zH} : zL (gM_reverse N l0 h) (fM_reverse N l0 h) := by
  unfold gM_reverse fM_reverse
  repeat (first | exact zL_r | exact zL_n | exact gfM_begins | exact gfM_mirrors | exact gfM_remember | refine zL_c ?_ ?_ | refine zL_1 fun _ => ?_ | refine zL_2 ?_ fun _ _ => ?_)
def gM_turnsToLeast (N : Nat) (l0 : Nat) (h : zH) : Option (Int32 × zH) := cond (fT h l0 5) (b2 (fM_least N l0 h) fun x1 h2 => b2 (gM_turns N l0 x1 h2) fun x3 h4 => some (x1, h4)) none
theorem gfM_turnsToLeast {N : Nat} {l0 : Nat} {h : zH} : zL (gM_turnsToLeast N l0 h) (fM_turnsToLeast N l0 h) := by
  unfold gM_turnsToLeast fM_turnsToLeast
  repeat (first | exact zL_r | exact zL_n | exact gfM_turns | refine zL_c ?_ ?_ | refine zL_1 fun _ => ?_ | refine zL_2 ?_ fun _ _ => ?_)
def gM_rotateToLeast_15 (N : Nat)  (l0 : Nat) (s0 : Int32) (s1 : Nat) (h : zH) : Option (Int32 × zH) := b2 (fM_throwsOne N s1 s0 h) fun x3 h4 => cond (z_cmp .eq x3 (Int32.ofInt 0)) (b2 (gM_begins N l0 h4) fun _ h6 => b2 (gM_turnsToLeast N l0 h6) fun x7 h8 => b2 (gM_remember N l0 x7 h8) fun x9 h10 => some (x9, h10)) (some ((Int32.ofInt 0), h4))
theorem gfM_rotateToLeast_15 {N : Nat} {l0 : Nat} {s0 : Int32} {s1 : Nat} {h : zH} : zL (gM_rotateToLeast_15 N l0 s0 s1 h) (fM_rotateToLeast_15 N l0 s0 s1 h) := by
  unfold gM_rotateToLeast_15 fM_rotateToLeast_15
  repeat (first | exact zL_r | exact zL_n | exact gfM_begins | exact gfM_turnsToLeast | exact gfM_remember | refine zL_c ?_ ?_ | refine zL_1 fun _ => ?_ | refine zL_2 ?_ fun _ _ => ?_)
def gM_rotateToLeast (N : Nat) (l0 : Nat) (h : zH) : Option (Int32 × zH) := cond (fT h l0 5) (b1 (fR h l0 5 0) fun x1 => b1 (fAI h x1 100 (Int32.ofInt 1)) fun x2 => cond (z_cmp .ne x2 (Int32.ofInt 0)) (gM_rotateToLeast_15 N  l0 (Int32.ofInt 0) l0 h) (gM_rotateToLeast_15 N  l0 (Int32.ofInt 1) l0 h)) none
theorem gfM_rotateToLeast {N : Nat} {l0 : Nat} {h : zH} : zL (gM_rotateToLeast N l0 h) (fM_rotateToLeast N l0 h) := by
  unfold gM_rotateToLeast fM_rotateToLeast
  repeat (first | exact zL_r | exact zL_n | exact gfM_rotateToLeast_15 | refine zL_c ?_ ?_ | refine zL_1 fun _ => ?_ | refine zL_2 ?_ fun _ _ => ?_)
def gM_keepFactor_39 (N : Nat)  (l0 : Nat) (l1 : Int32) (s0 : Int32) (s1 : Int32) (s2 : Nat) (h : zH) : Option (Int32 × zH) := b2 (fM_throwsOne2 N s2 s1 s0 h) fun x5 h6 => cond (z_cmp .eq x5 (Int32.ofInt 0)) (b2 (gM_begins N l0 h6) fun _ h8 => b2 (fM_keepsFactor N l0 l1 h8) fun x9 h10 => b2 (gM_remember N l0 x9 h10) fun x11 h12 => some (x11, h12)) (some ((Int32.ofInt 0), h6))
theorem gfM_keepFactor_39 {N : Nat} {l0 : Nat} {l1 : Int32} {s0 : Int32} {s1 : Int32} {s2 : Nat} {h : zH} : zL (gM_keepFactor_39 N l0 l1 s0 s1 s2 h) (fM_keepFactor_39 N l0 l1 s0 s1 s2 h) := by
  unfold gM_keepFactor_39 fM_keepFactor_39
  repeat (first | exact zL_r | exact zL_n | exact gfM_begins | exact gfM_remember | refine zL_c ?_ ?_ | refine zL_1 fun _ => ?_ | refine zL_2 ?_ fun _ _ => ?_)
def gM_keepFactor_38 (N : Nat)  (l0 : Nat) (l1 : Int32) (s0 : Int32) (s1 : Nat) (h : zH) : Option (Int32 × zH) := gM_keepFactor_39 N  l0 l1 (Int32.ofInt 0) s0 s1 h
theorem gfM_keepFactor_38 {N : Nat} {l0 : Nat} {l1 : Int32} {s0 : Int32} {s1 : Nat} {h : zH} : zL (gM_keepFactor_38 N l0 l1 s0 s1 h) (fM_keepFactor_38 N l0 l1 s0 s1 h) := by
  unfold gM_keepFactor_38 fM_keepFactor_38
  repeat (first | exact zL_r | exact zL_n | exact gfM_keepFactor_39 | refine zL_c ?_ ?_ | refine zL_1 fun _ => ?_ | refine zL_2 ?_ fun _ _ => ?_)
def gM_keepFactor_22 (N : Nat)  (l0 : Nat) (l1 : Int32) (l2 : Int32) (s0 : Int32) (s1 : Nat) (h : zH) : Option (Int32 × zH) := cond (z_cmp .eq l2 (Int32.ofInt 0)) (gM_keepFactor_38 N  l0 l1 s0 s1 h) (b2 (fM_canKeepFactor N l0 l1 h) fun x5 h6 => cond (z_cmp .ne x5 (Int32.ofInt 0)) (gM_keepFactor_38 N  l0 l1 s0 s1 h6) (gM_keepFactor_39 N  l0 l1 (Int32.ofInt 1) s0 s1 h6))
theorem gfM_keepFactor_22 {N : Nat} {l0 : Nat} {l1 : Int32} {l2 : Int32} {s0 : Int32} {s1 : Nat} {h : zH} : zL (gM_keepFactor_22 N l0 l1 l2 s0 s1 h) (fM_keepFactor_22 N l0 l1 l2 s0 s1 h) := by
  unfold gM_keepFactor_22 fM_keepFactor_22
  repeat (first | exact zL_r | exact zL_n | exact gfM_keepFactor_38 | exact gfM_keepFactor_39 | refine zL_c ?_ ?_ | refine zL_1 fun _ => ?_ | refine zL_2 ?_ fun _ _ => ?_)
def gM_keepFactor (N : Nat) (l0 : Nat) (l1 : Int32) (h : zH) : Option (Int32 × zH) := cond (fT h l0 5) (b2 (fM_factors N l0 h) fun x1 h2 => b2 (fM_in N l1 (Int32.ofInt 0) (x1 - (Int32.ofInt 1)) h2) fun x3 h4 => cond (z_cmp .ne x3 (Int32.ofInt 0)) (gM_keepFactor_22 N  l0 l1 x3 (Int32.ofInt 0) l0 h4) (gM_keepFactor_22 N  l0 l1 x3 (Int32.ofInt 1) l0 h4)) none
theorem gfM_keepFactor {N : Nat} {l0 : Nat} {l1 : Int32} {h : zH} : zL (gM_keepFactor N l0 l1 h) (fM_keepFactor N l0 l1 h) := by
  unfold gM_keepFactor fM_keepFactor
  repeat (first | exact zL_r | exact zL_n | exact gfM_keepFactor_22 | refine zL_c ?_ ?_ | refine zL_1 fun _ => ?_ | refine zL_2 ?_ fun _ _ => ?_)
def gM_keepText_13 (N : Nat)  (l0 : Nat) (s0 : Int32) (s1 : Nat) (h : zH) : Option (Int32 × zH) := b2 (fM_throwsOne N s1 s0 h) fun x3 h4 => cond (z_cmp .eq x3 (Int32.ofInt 0)) (b2 (gM_begins N l0 h4) fun _ h6 => b1 (fR h6 l0 5 0) fun x7 => b1 (fAI h6 x7 100 (Int32.ofInt 1)) fun x8 => b2 (fM_shelves N l0 (Int32.ofInt 0) x8 h6) fun x9 h10 => b2 (gM_remember N l0 x9 h10) fun x11 h12 => some (x11, h12)) (some ((Int32.ofInt 0), h4))
theorem gfM_keepText_13 {N : Nat} {l0 : Nat} {s0 : Int32} {s1 : Nat} {h : zH} : zL (gM_keepText_13 N l0 s0 s1 h) (fM_keepText_13 N l0 s0 s1 h) := by
  unfold gM_keepText_13 fM_keepText_13
  repeat (first | exact zL_r | exact zL_n | exact gfM_begins | exact gfM_remember | refine zL_c ?_ ?_ | refine zL_1 fun _ => ?_ | refine zL_2 ?_ fun _ _ => ?_)
def gM_keepText (N : Nat) (l0 : Nat) (h : zH) : Option (Int32 × zH) := cond (fT h l0 5) (b2 (fM_canKeepText N l0 h) fun x1 h2 => cond (z_cmp .ne x1 (Int32.ofInt 0)) (gM_keepText_13 N  l0 (Int32.ofInt 0) l0 h2) (gM_keepText_13 N  l0 (Int32.ofInt 1) l0 h2)) none
theorem gfM_keepText {N : Nat} {l0 : Nat} {h : zH} : zL (gM_keepText N l0 h) (fM_keepText N l0 h) := by
  unfold gM_keepText fM_keepText
  repeat (first | exact zL_r | exact zL_n | exact gfM_keepText_13 | refine zL_c ?_ ?_ | refine zL_1 fun _ => ?_ | refine zL_2 ?_ fun _ _ => ?_)
def gM_removeKept_14 (N : Nat)  (l0 : Nat) (l1 : Int32) (s0 : Int32) (s1 : Nat) (h : zH) : Option (Int32 × zH) := b2 (fM_throwsOne N s1 s0 h) fun x3 h4 => cond (z_cmp .eq x3 (Int32.ofInt 0)) (b2 (gM_begins N l0 h4) fun _ h6 => b2 (fM_removes N l0 l1 h6) fun x7 h8 => b2 (gM_remember N l0 x7 h8) fun x9 h10 => some (x9, h10)) (some ((Int32.ofInt 0), h4))
theorem gfM_removeKept_14 {N : Nat} {l0 : Nat} {l1 : Int32} {s0 : Int32} {s1 : Nat} {h : zH} : zL (gM_removeKept_14 N l0 l1 s0 s1 h) (fM_removeKept_14 N l0 l1 s0 s1 h) := by
  unfold gM_removeKept_14 fM_removeKept_14
  repeat (first | exact zL_r | exact zL_n | exact gfM_begins | exact gfM_remember | refine zL_c ?_ ?_ | refine zL_1 fun _ => ?_ | refine zL_2 ?_ fun _ _ => ?_)
def gM_removeKept (N : Nat) (l0 : Nat) (l1 : Int32) (h : zH) : Option (Int32 × zH) := cond (fT h l0 5) (b2 (fM_isShelved N l0 l1 h) fun x1 h2 => cond (z_cmp .ne x1 (Int32.ofInt 0)) (gM_removeKept_14 N  l0 l1 (Int32.ofInt 0) l0 h2) (gM_removeKept_14 N  l0 l1 (Int32.ofInt 1) l0 h2)) none
theorem gfM_removeKept {N : Nat} {l0 : Nat} {l1 : Int32} {h : zH} : zL (gM_removeKept N l0 l1 h) (fM_removeKept N l0 l1 h) := by
  unfold gM_removeKept fM_removeKept
  repeat (first | exact zL_r | exact zL_n | exact gfM_removeKept_14 | refine zL_c ?_ ?_ | refine zL_1 fun _ => ?_ | refine zL_2 ?_ fun _ _ => ?_)
def gM_joins_9 (N : Nat) : Nat → Nat → Int32 → Int32 → zH → Option (Int32 × zH)
  | 0, _, _, _, _ => none
  | n + 1, l0, l1, l2, h => b1 (fR h l0 5 0) fun x2 => b1 (fAI h x2 100 (Int32.ofInt 2)) fun x3 => cond (z_cmp .ge l2 x3) (b2 (gM_takes N l0 h) fun x4 h5 => some (x4, h5)) (b2 (fM_greatestBeside N l0 l1 h) fun x6 h7 => fM_joins_34 N N (gM_joins_9 N n ) l0 (l1 ||| ((Int32.ofInt 1) <<< (x6 &&& 31))) l2 x6 (Int32.ofInt 0) h7)
theorem gfM_joins_9 {N : Nat} : ∀ {n : Nat} {x1 : Nat} {x2 : Int32} {x3 : Int32} {x4 : zH}, zL (gM_joins_9 N n x1 x2 x3 x4) (fM_joins_9 N n x1 x2 x3 x4) := by
  intro n
  induction n with
  | zero => intros; exact zL_n
  | succ n ih =>
    intros
    rw [gM_joins_9, fM_joins_9]
    repeat (first | exact zL_r | exact ih | exact zg_joins_34 (fun _ _ _ _ => ih) | exact zL_n | exact gfM_takes | refine zL_c ?_ ?_ | refine zL_1 fun _ => ?_ | refine zL_2 ?_ fun _ _ => ?_)
def gM_joins (N : Nat) (l0 : Nat) (h : zH) : Option (Int32 × zH) := cond (fT h l0 5) (b1 (fS h l0 5 14 (.int (Int32.ofInt 0))) fun h1 => gM_joins_9 N N  l0 (Int32.ofInt 0) (Int32.ofInt 0) h1) none
theorem gfM_joins {N : Nat} {l0 : Nat} {h : zH} : zL (gM_joins N l0 h) (fM_joins N l0 h) := by
  unfold gM_joins fM_joins
  repeat (first | exact zL_r | exact zL_n | exact gfM_joins_9 | refine zL_c ?_ ?_ | refine zL_1 fun _ => ?_ | refine zL_2 ?_ fun _ _ => ?_)
def gM_joinKept_13 (N : Nat)  (l0 : Nat) (s0 : Int32) (s1 : Nat) (h : zH) : Option (Int32 × zH) := b2 (fM_throwsOne N s1 s0 h) fun x3 h4 => cond (z_cmp .eq x3 (Int32.ofInt 0)) (b2 (gM_begins N l0 h4) fun _ h6 => b2 (gM_joins N l0 h6) fun x7 h8 => b2 (gM_remember N l0 x7 h8) fun x9 h10 => some (x9, h10)) (some ((Int32.ofInt 0), h4))
theorem gfM_joinKept_13 {N : Nat} {l0 : Nat} {s0 : Int32} {s1 : Nat} {h : zH} : zL (gM_joinKept_13 N l0 s0 s1 h) (fM_joinKept_13 N l0 s0 s1 h) := by
  unfold gM_joinKept_13 fM_joinKept_13
  repeat (first | exact zL_r | exact zL_n | exact gfM_begins | exact gfM_joins | exact gfM_remember | refine zL_c ?_ ?_ | refine zL_1 fun _ => ?_ | refine zL_2 ?_ fun _ _ => ?_)
def gM_joinKept (N : Nat) (l0 : Nat) (h : zH) : Option (Int32 × zH) := cond (fT h l0 5) (b2 (fM_canJoin N l0 h) fun x1 h2 => cond (z_cmp .ne x1 (Int32.ofInt 0)) (gM_joinKept_13 N  l0 (Int32.ofInt 0) l0 h2) (gM_joinKept_13 N  l0 (Int32.ofInt 1) l0 h2)) none
theorem gfM_joinKept {N : Nat} {l0 : Nat} {h : zH} : zL (gM_joinKept N l0 h) (fM_joinKept N l0 h) := by
  unfold gM_joinKept fM_joinKept
  repeat (first | exact zL_r | exact zL_n | exact gfM_joinKept_13 | refine zL_c ?_ ?_ | refine zL_1 fun _ => ?_ | refine zL_2 ?_ fun _ _ => ?_)
def gM_saveSnapshot (N : Nat) (l0 : Nat) (h : zH) : Option (Int32 × zH) := cond (fT h l0 5) (b1 (fS h l0 5 17 (.int (Int32.ofInt 0))) fun h1 => b1 (fS h1 l0 5 5 (.int (Int32.ofInt 1))) fun h2 => gM_saveSnapshot_12 N N  l0 (Int32.ofInt 0) h2) none
theorem gfM_saveSnapshot {N : Nat} {l0 : Nat} {h : zH} : zL (gM_saveSnapshot N l0 h) (fM_saveSnapshot N l0 h) := by
  unfold gM_saveSnapshot fM_saveSnapshot
  repeat (first | exact zL_r | exact zL_n | exact gfM_saveSnapshot_12 | refine zL_c ?_ ?_ | refine zL_1 fun _ => ?_ | refine zL_2 ?_ fun _ _ => ?_)
def gM_parses (N : Nat) (l0 : Nat) (h : zH) : Option (Int32 × zH) := cond (fT h l0 5) (gM_parses_2 N N  l0 (Int32.ofInt 0) h) none
theorem gfM_parses {N : Nat} {l0 : Nat} {h : zH} : zL (gM_parses N l0 h) (fM_parses N l0 h) := by
  unfold gM_parses fM_parses
  repeat (first | exact zL_r | exact zL_n | exact gfM_parses_2 | refine zL_c ?_ ?_ | refine zL_1 fun _ => ?_ | refine zL_2 ?_ fun _ _ => ?_)
def gM_runScript_7 (N : Nat) : Nat → Nat → Int32 → zH → Option (Int32 × zH)
  | 0, _, _, _ => none
  | n + 1, l0, l1, h => b1 (fI h l0 5 10) fun x2 => cond (z_cmp .ge l1 x2) (b1 (fI h l0 5 10) fun x3 => b1 (fS h l0 5 11 (.int x3)) fun h4 => b1 (fS h4 l0 5 10 (.int (Int32.ofInt 0))) fun h5 => b2 (gM_begins N l0 h5) fun _ h7 => b2 (gM_parses N l0 h7) fun x8 h9 => cond (z_cmp .ne x8 (Int32.ofInt 0)) (b1 (fR h9 l0 5 0) fun x10 => b1 (fAI h9 x10 100 (Int32.ofInt 1)) fun x11 => b2 (gM_remember N l0 x11 h9) fun x12 h13 => some (x12, h13)) (gM_runScript_59 N N  l0 (Int32.ofInt 0) h9)) (b1 (fR h l0 5 7) fun x14 => b1 (fR h l0 5 6) fun x15 => b1 (fAI h x15 100 l1) fun x16 => b1 (fAS h x14 100 l1 (.int x16)) fun h17 => gM_runScript_7 N n  l0 (l1 + Int32.ofInt 1) h17)
theorem gfM_runScript_7 {N : Nat} : ∀ {n : Nat} {x1 : Nat} {x2 : Int32} {x3 : zH}, zL (gM_runScript_7 N n x1 x2 x3) (fM_runScript_7 N n x1 x2 x3) := by
  intro n
  induction n with
  | zero => intros; exact zL_n
  | succ n ih =>
    intros
    rw [gM_runScript_7, fM_runScript_7]
    repeat (first | exact zL_r | exact ih | exact zL_n | exact gfM_begins | exact gfM_parses | exact gfM_remember | exact gfM_runScript_59 | refine zL_c ?_ ?_ | refine zL_1 fun _ => ?_ | refine zL_2 ?_ fun _ _ => ?_)
def gM_runScript (N : Nat) (l0 : Nat) (h : zH) : Option (Int32 × zH) := cond (fT h l0 5) (b1 (fS h l0 5 17 (.int (Int32.ofInt 0))) fun h1 => gM_runScript_7 N N  l0 (Int32.ofInt 0) h1) none
theorem gfM_runScript {N : Nat} {l0 : Nat} {h : zH} : zL (gM_runScript N l0 h) (fM_runScript N l0 h) := by
  unfold gM_runScript fM_runScript
  repeat (first | exact zL_r | exact zL_n | exact gfM_runScript_7 | refine zL_c ?_ ?_ | refine zL_1 fun _ => ?_ | refine zL_2 ?_ fun _ _ => ?_)
