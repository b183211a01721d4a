/-! THE REFERENCE'S isPrenecklace. -/
/-- the ending at q falls below the begin -/
def zm_bad (T : List Nat) (q : Nat) : Prop := ∃ k, q + k < T.length ∧ (∀ e, e < k → T.getD (q + e) 0 = T.getD e 0) ∧ T.getD (q + k) 0 < T.getD k 0
theorem zm_noB {T : List Nat} {p : Nat} (L : zm_L T 0 p) (Q : zm_Q T p) (q : Nat) (hq : 1 ≤ q) : ¬ zm_bad T q := by
  rintro ⟨k, k1, k2, k3⟩
  have hp := L.1
  have P : zm_P T 0 p T.length := fun j j1 j2 => by
    rw [Nat.zero_add] at j2 ⊢
    exact Q j j1 j2
  have per : ∀ x, x < T.length → T.getD x 0 = T.getD (x % p) 0 := fun x hx => by
    have := zm_per hp P x (by omega)
    rw [Nat.zero_add, Nat.zero_add] at this
    exact this
  have hr := Nat.mod_lt q (show 0 < p by omega)
  by_cases e : q % p = 0
  · rw [per (q + k) k1, per k (by omega)] at k3
    rw [Nat.add_mod, e, Nat.zero_add, Nat.mod_mod] at k3
    omega
  · obtain ⟨d, d1, d2, d3⟩ := L.2.2 (q % p) (by omega) hr
    have key : ∀ x, x ≤ d → q + x < T.length → T.getD (q + x) 0 = T.getD (q % p + x) 0 := fun x h1 h2 => by
      rw [per _ h2, Nat.add_mod, Nat.mod_eq_of_lt (show x < p by omega), Nat.mod_eq_of_lt (show q % p + x < p by omega)]
    have d2' : ∀ x, x < d → T.getD (q % p + x) 0 = T.getD x 0 := fun x hx => by
      have := d2 x hx
      simp only [Nat.zero_add] at this
      first | exact this | exact this.symm
    have d3' : T.getD d 0 < T.getD (q % p + d) 0 := by
      have := d3
      simp only [Nat.zero_add] at this
      exact this
    by_cases h1 : k < d
    · have a := key k (by omega) k1
      have b := d2' k h1
      omega
    · by_cases h2 : k = d
      · subst h2
        have a := key k (Nat.le_refl _) k1
        omega
      · have a := key d (Nat.le_refl _) (by omega)
        have b := k2 d (by omega)
        omega
theorem zm_bnP {T : List Nat} (hn : 0 < T.length) : zw_bn T = true ↔ ∀ q, 1 ≤ q → q < T.length → ¬ zm_bad T q := by
  obtain ⟨p, p1, p2, i, s1, s2, s3, s4⟩ := zm_lE hn
  rw [Nat.zero_add] at p1 s1
  have hp := p2.1
  unfold zw_bn
  rw [decide_eq_true hn, Bool.true_and, p1, zm_hpQ (by omega)]
  constructor
  · intro Q q q1 q2
    exact zm_noB p2 Q q q1
  · intro x
    rcases s4 with s4 | ⟨s4, s5⟩
    · intro j j1 j2
      have := s3 j j1 (by omega)
      rw [Nat.zero_add] at this
      exact this
    · refine absurd ⟨i - p, by omega, fun e he => ?_, ?_⟩ (x p hp (by omega))
      · have := s3 (p + e) (by omega) (by omega)
        rw [Nat.zero_add, show p + e - p = e by omega] at this
        exact this
      · rw [show p + (i - p) = i by omega]
        exact s5
section ZYW
variable {N : Nat} {h : zH} {fl fl' : Nat → Int} {a a' : Nat → Nat → Int} {bef now snap : zA} {hist : List zA} {sv t : Int} {inp : List Nat} {rep : zvP} {T : List Nat}
theorem zr_beg45 (H : zr h fl a) (r : zr_rw fl a T) (hT : T.length ≤ 121) (hv : ∀ v ∈ T, v < 256) {p k : Nat} (hp : 1 ≤ p) (hk : p + k ≤ T.length) (he : ∀ e, e < k → T.getD (p + e) 0 = T.getD e 0) (hne : p + k < T.length → T.getD (p + k) 0 ≠ T.getD k 0) {k2 : Nat → Int32 → zH → Option (Int32 × zH)} : ∃ b : Bool, fM_isBeginning_45 N k2 232 (Int32.ofInt (p : Int)) (Int32.ofInt (k : Int)) h = cond b (k2 232 (Int32.ofInt ((p + 1 : Nat) : Int)) h) (some (Int32.ofInt 0, h)) ∧ (b = true ↔ ¬ zm_bad T p) := by
  have x1 := zd_lt hv (p + k)
  have x2 := zd_lt hv k
  unfold fM_isBeginning_45 fM_isBeginning_74
  rw [zr_i H 14 rfl, b1_s, r.1, zw_add, zqo_ge _ _ (by omega) (by omega), zh_inc]
  by_cases e : p + k < T.length
  · have g1 : fAI h 239 100 (Int32.ofInt ((p : Int) + (k : Int))) = some (Int32.ofInt ((T.getD (p + k) 0 : Int) - 97)) := by
      rw [show (p : Int) + (k : Int) = ((p + k : Nat) : Int) by omega, zr_row H _ (by omega), r.2 _ e]
    have g2 : fAI h 239 100 (Int32.ofInt (k : Int)) = some (Int32.ofInt ((T.getD k 0 : Int) - 97)) := by
      rw [zr_row H _ (by omega), r.2 _ (by omega)]
    rw [decide_eq_false (by omega), cond_false, zr_r8 H, b1_s, g1, b1_s, b1_s, g2, b1_s, zqo_ge _ _ (by omega) (by omega)]
    have ne := hne e
    by_cases e2 : T.getD (p + k) 0 < T.getD k 0
    · refine ⟨false, ?_, ⟨fun x => absurd x (by decide), fun x => absurd ⟨k, e, he, e2⟩ x⟩⟩
      rw [decide_eq_false (by omega)]
      try rfl
    · refine ⟨true, ?_, ⟨fun _ => ?_, fun _ => rfl⟩⟩
      · rw [decide_eq_true (by omega)]
        try rfl
      · rintro ⟨j, j1, j2, j3⟩
        by_cases h1 : j < k
        · have := he j h1
          omega
        · by_cases h2 : j = k
          · rw [h2] at j3
            exact e2 j3
          · exact ne (j2 k (by omega))
  · refine ⟨true, ?_, ⟨fun _ => ?_, fun _ => rfl⟩⟩
    · rw [decide_eq_true (by omega)]
      rfl
    · rintro ⟨j, j1, j2, j3⟩
      have := he j (by omega)
      omega
theorem zr_beg12 (H : zr h fl a) (r : zr_rw fl a T) (hT : T.length ≤ 121) (hv : ∀ v ∈ T, v < 256) {p : Nat} (hp : 1 ≤ p) {k2 : Nat → Int32 → zH → Option (Int32 × zH)} : ∀ (c f k : Nat), p + k + c = T.length → c < f → (∀ e, e < k → T.getD (p + e) 0 = T.getD e 0) → ∃ b : Bool, fM_isBeginning_12 N f k2 232 (Int32.ofInt (p : Int)) (Int32.ofInt (k : Int)) h = cond b (k2 232 (Int32.ofInt ((p + 1 : Nat) : Int)) h) (some (Int32.ofInt 0, h)) ∧ (b = true ↔ ¬ zm_bad T p) := by
  intro c
  induction c with
  | zero =>
    intro f k h1 h2 h3
    obtain ⟨g, rfl⟩ : ∃ g, f = g + 1 := ⟨f - 1, by omega⟩
    rw [fM_isBeginning_12, zr_i H 14 rfl, b1_s, r.1, zw_add, zqo_ge _ _ (by omega) (by omega), decide_eq_true (by omega), cond_true]
    exact zr_beg45 H r hT hv hp (by omega) h3 (fun x => absurd x (by omega))
  | succ c ih =>
    intro f k h1 h2 h3
    obtain ⟨g, rfl⟩ : ∃ g, f = g + 1 := ⟨f - 1, by omega⟩
    have x1 := zd_lt hv (p + k)
    have x2 := zd_lt hv k
    have g1 : fAI h 239 100 (Int32.ofInt ((p : Int) + (k : Int))) = some (Int32.ofInt ((T.getD (p + k) 0 : Int) - 97)) := by
      rw [show (p : Int) + (k : Int) = ((p + k : Nat) : Int) by omega, zr_row H _ (by omega), r.2 _ (by omega)]
    have g2 : fAI h 239 100 (Int32.ofInt (k : Int)) = some (Int32.ofInt ((T.getD k 0 : Int) - 97)) := by
      rw [zr_row H _ (by omega), r.2 _ (by omega)]
    rw [fM_isBeginning_12, zr_i H 14 rfl, b1_s, r.1, zw_add, zqo_ge _ _ (by omega) (by omega), decide_eq_false (by omega), cond_false, zr_r8 H, b1_s, g1, b1_s, b1_s, g2, b1_s, zqo_ne _ _ (by omega) (by omega)]
    by_cases e : T.getD (p + k) 0 = T.getD k 0
    · rw [decide_eq_true (by omega), Bool.not_true, cond_false, zh_inc]
      exact ih g (k + 1) (by omega) (by omega) (fun j hj => by
        by_cases ej : j = k
        · rw [ej]
          exact e
        · exact h3 j (by omega))
    · rw [decide_eq_false (by omega), Bool.not_false, cond_true]
      exact zr_beg45 H r hT hv hp (by omega) h3 (fun _ => e)
theorem zr_beg2 (hN : 1000 ≤ N) (H : zr h fl a) (r : zr_rw fl a T) (hT : T.length ≤ 121) (hv : ∀ v ∈ T, v < 256) (hn : 0 < T.length) : ∀ (c f p : Nat), p + c = T.length → 1 ≤ p → c < f → ∃ b : Bool, fM_isBeginning_2 N f 232 (Int32.ofInt (p : Int)) h = some (cond b (Int32.ofInt 1) (Int32.ofInt 0), h) ∧ (b = true ↔ ∀ q, p ≤ q → q < T.length → ¬ zm_bad T q) := by
  intro c
  induction c with
  | zero =>
    intro f p h1 h2 h3
    obtain ⟨g, rfl⟩ : ∃ g, f = g + 1 := ⟨f - 1, by omega⟩
    refine ⟨true, ?_, ⟨fun _ j j1 j2 => absurd j2 (by omega), fun _ => rfl⟩⟩
    rw [fM_isBeginning_2, zr_i H 14 rfl, b1_s, r.1, zqo_ge _ _ (by omega) (by omega), decide_eq_true (by omega), cond_true, b1_s, zqo_le _ _ (by omega) (by decide), decide_eq_false (by omega)]
    rfl
  | succ c ih =>
    intro f p h1 h2 h3
    obtain ⟨g, rfl⟩ : ∃ g, f = g + 1 := ⟨f - 1, by omega⟩
    obtain ⟨b, e1, e2⟩ := zr_beg12 (N := N) H r hT hv h2 (k2 := fM_isBeginning_2 N g) (T.length - p) N 0 (by omega) (by omega) (fun e he => absurd he (Nat.not_lt_zero e))
    have e1 : fM_isBeginning_12 N N (fM_isBeginning_2 N g) 232 (Int32.ofInt (p : Int)) (Int32.ofInt 0) h = _ := e1
    rw [fM_isBeginning_2, zr_i H 14 rfl, b1_s, r.1, zqo_ge _ _ (by omega) (by omega), decide_eq_false (by omega), cond_false, e1]
    cases b with
    | false =>
      refine ⟨false, rfl, ⟨fun x => absurd x (by decide), fun x => absurd (e2.mpr (x p (Nat.le_refl _) (by omega))) (by decide)⟩⟩
    | true =>
      obtain ⟨q, f1, f2⟩ := ih g (p + 1) (by omega) (by omega) (by omega)
      refine ⟨q, by rw [cond_true]; exact f1, f2.trans ⟨fun x j j1 j2 => ?_, fun x j j1 j2 => x j (by omega) j2⟩⟩
      by_cases ej : j = p
      · rw [ej]
        exact e2.mp rfl
      · exact x j (by omega) j2
theorem zr_beginning (hN : 1000 ≤ N) (H : zr h fl a) (r : zr_rw fl a T) (hT : T.length ≤ 121) (hv : ∀ v ∈ T, v < 256) : fM_isBeginning N 232 h = some (cond (zw_bn T) (Int32.ofInt 1) (Int32.ofInt 0), h) := by
  unfold fM_isBeginning
  rw [zr_T H, cond_true]
  by_cases e : T.length = 0
  · obtain ⟨g, hg⟩ : ∃ g, N = g + 1 := ⟨N - 1, by omega⟩
    have st : fM_isBeginning_2 N N 232 (Int32.ofInt 1) h = fM_isBeginning_2 N (g + 1) 232 (Int32.ofInt 1) h := by rw [← hg]
    rw [st, fM_isBeginning_2, zr_i H 14 rfl, b1_s, r.1, zqo_ge _ _ (by decide) (by omega), decide_eq_true (by omega), cond_true, b1_s, zqo_le _ _ (by omega) (by decide), decide_eq_true (by omega), List.eq_nil_of_length_eq_zero e]
    rfl
  · obtain ⟨b, b1', b2'⟩ := zr_beg2 (N := N) hN H r hT hv (by omega) (T.length - 1) N 1 (by omega) (Nat.le_refl 1) (by omega)
    have eb : zw_bn T = b := by
      rw [Bool.eq_iff_iff, zm_bnP (by omega), b2']
    rw [eb]
    exact b1'
theorem zn_isPrenecklace (Y : zy h now hist snap sv inp rep t) (ok : zv_ok now) (hN : 4000 ≤ N) : ∃ h', fM_isPrenecklace N 232 h = some (cond (zw_bn now.2.1) (Int32.ofInt 1) (Int32.ofInt 0), h') ∧ zy h' now hist snap sv inp rep 0 ∧ zr_F h h' := by
  obtain ⟨h1, e1, ⟨fl, a, H, R⟩, F1⟩ := zy_throw Y 0
  obtain ⟨fl0, a0, H0, R0⟩ := Y
  have o2 := ok.2.1
  obtain ⟨h2, f2, a2, e2, H2, F2, Q2, r2⟩ := zr_loads (N := N) (by omega) H (zyR_tx R) o2
  refine ⟨h2, ?_, ⟨f2, a2, H2, zyR_Q R Q2⟩, zr_Ft F1 F2⟩
  unfold fM_isPrenecklace
  rw [zr_T H0, cond_true, e1, b1_s, e2, b2, zr_beginning (by omega) H2 r2 (by omega) (zv_256 ok), b2]
  cases zw_bn now.2.1 <;> rfl
end ZYW
