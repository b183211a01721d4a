section
/-! SCRIPTS: their bytes and tokens. -/
/-- what a byte begins: 1 a word, 2 a number, 3 and 4 parentheses, 5 a semicolon, 6 nothing, 7 no token -/
def yt_k (v : Nat) : Nat := if 97 ≤ v ∧ v ≤ 122 then 1 else if 48 ≤ v ∧ v ≤ 57 then 2 else if v = 10 ∨ v = 32 then 6 else if v = 40 then 3 else if v = 41 then 4 else if v = 59 then 5 else 7
theorem yt_kb (v : Nat) : 1 ≤ yt_k v ∧ yt_k v ≤ 7 := by
  unfold yt_k
  repeat' split
  all_goals omega
theorem yt_k1 {v : Nat} (h : yt_k v = 1) : 97 ≤ v ∧ v ≤ 122 := by
  unfold yt_k at h
  by_cases e : 97 ≤ v ∧ v ≤ 122
  · exact e
  · rw [if_neg e] at h
    repeat' split at h
    all_goals omega
theorem yt_k2 {v : Nat} (h : yt_k v = 2) : 48 ≤ v ∧ v ≤ 57 := by
  unfold yt_k at h
  by_cases e : 97 ≤ v ∧ v ≤ 122
  · rw [if_pos e] at h
    omega
  · rw [if_neg e] at h
    by_cases e2 : 48 ≤ v ∧ v ≤ 57
    · exact e2
    · rw [if_neg e2] at h
      repeat' split at h
      all_goals omega
theorem yt_lkn {α : Type} {v a : Int} {d x : α} {l : List (Int × α)} (h : a ≠ v) : z_lk v d ((a, x) :: l) = z_lk v d l := by
  show cond (decide (a = v)) x _ = _
  rw [decide_eq_false h]
  rfl
theorem yt_lk (N v : Nat) (h : zH) (h1 : ¬ (97 ≤ v ∧ v ≤ 122)) (h2 : ¬ (48 ≤ v ∧ v ≤ 57)) : z_lk ((v : Nat) : Int) (some (Int32.ofInt 7, h)) ((([(-1, 88), (10, 90), (32, 90), (40, 93), (41, 95), (59, 97)] : List (Int × Nat)).map (·.1)).zip [some ((Int32.ofInt 0), h), fC_kindOf_90 N h, fC_kindOf_90 N h, some ((Int32.ofInt 3), h), some ((Int32.ofInt 4), h), some ((Int32.ofInt 5), h)]) = some (Int32.ofInt ((yt_k v : Nat) : Int), h) := by
  show z_lk ((v : Nat) : Int) (some (Int32.ofInt 7, h)) [((-1 : Int), some (Int32.ofInt 0, h)), (10, some (Int32.ofInt 6, h)), (32, some (Int32.ofInt 6, h)), (40, some (Int32.ofInt 3, h)), (41, some (Int32.ofInt 4, h)), (59, some (Int32.ofInt 5, h))] = _
  by_cases a1 : v = 10
  · subst a1
    rfl
  by_cases a2 : v = 32
  · subst a2
    rfl
  by_cases a3 : v = 40
  · subst a3
    rfl
  by_cases a4 : v = 41
  · subst a4
    rfl
  by_cases a5 : v = 59
  · subst a5
    rfl
  have e : yt_k v = 7 := by
    unfold yt_k
    rw [if_neg h1, if_neg h2, if_neg (by omega), if_neg a3, if_neg a4, if_neg a5]
  rw [e, yt_lkn (by omega), yt_lkn (by omega), yt_lkn (by omega), yt_lkn (by omega), yt_lkn (by omega), yt_lkn (by omega)]
  rfl
theorem yt_kind (N v : Nat) (hv : v < 256) (h : zH) : fC_kindOf N (Int32.ofInt (v : Int)) h = some (Int32.ofInt ((yt_k v : Nat) : Int), h) := by
  have hi : (Int32.ofInt (v : Int)).toInt = (v : Int) := zqo_i _ (by omega)
  have k14 : ¬ (97 ≤ v ∧ v ≤ 122) → fC_kindOf_14 N (Int32.ofInt (v : Int)) h = some (Int32.ofInt ((yt_k v : Nat) : Int), h) := by
    intro n1
    have k28 : ¬ (48 ≤ v ∧ v ≤ 57) → fC_kindOf_28 N (Int32.ofInt (v : Int)) h = some (Int32.ofInt ((yt_k v : Nat) : Int), h) := by
      intro n2
      unfold fC_kindOf_28
      rw [hi]
      exact yt_lk N v h n1 n2
    unfold fC_kindOf_14
    rw [zqo_lt _ _ (by omega) (by decide), zqo_gt _ _ (by omega) (by decide)]
    by_cases e1 : (v : Int) < 48
    · rw [decide_eq_true e1, cond_true]
      exact k28 (by omega)
    · rw [decide_eq_false e1, cond_false]
      by_cases e2 : (57 : Int) < (v : Int)
      · rw [decide_eq_true e2, cond_true]
        exact k28 (by omega)
      · rw [decide_eq_false e2, cond_false]
        have e : yt_k v = 2 := by
          unfold yt_k
          rw [if_neg n1, if_pos (by omega)]
        rw [e]
        rfl
  unfold fC_kindOf
  rw [zqo_lt _ _ (by omega) (by decide), zqo_gt _ _ (by omega) (by decide)]
  by_cases e1 : (v : Int) < 97
  · rw [decide_eq_true e1, cond_true]
    exact k14 (by omega)
  · rw [decide_eq_false e1, cond_false]
    by_cases e2 : (122 : Int) < (v : Int)
    · rw [decide_eq_true e2, cond_true]
      exact k14 (by omega)
    · rw [decide_eq_false e2, cond_false]
      have e : yt_k v = 1 := by
        unfold yt_k
        rw [if_pos (by omega)]
      rw [e]
      rfl
theorem yt_kindE (N : Nat) (h : zH) : fC_kindOf N (Int32.ofInt (-1)) h = some (Int32.ofInt 0, h) := rfl
/-- behind blanks -/
def yt_b (s : List Nat) : Nat → Nat → Nat
  | 0, p => p
  | c + 1, p => if yt_k (s.getD p 0) = 6 then yt_b s c (p + 1) else p
/-- behind bytes of one kind -/
def yt_r (s : List Nat) (k : Nat) : Nat → Nat → Nat
  | 0, p => p
  | c + 1, p => if yt_k (s.getD p 0) = k then yt_r s k c (p + 1) else p
theorem yt_bb {s : List Nat} : ∀ c p, p + c = s.length → p ≤ yt_b s c p ∧ yt_b s c p ≤ s.length := by
  intro c
  induction c with
  | zero => intro p h; exact ⟨Nat.le_refl p, by show p ≤ _; omega⟩
  | succ c ih =>
    intro p h
    rw [yt_b]
    split
    · have := ih (p + 1) (by omega)
      omega
    · omega
theorem yt_rb {s : List Nat} {k : Nat} : ∀ c p, p + c = s.length → p ≤ yt_r s k c p ∧ yt_r s k c p ≤ s.length := by
  intro c
  induction c with
  | zero => intro p h; exact ⟨Nat.le_refl p, by show p ≤ _; omega⟩
  | succ c ih =>
    intro p h
    rw [yt_r]
    split
    · have := ih (p + 1) (by omega)
      omega
    · omega
theorem yt_rk {s : List Nat} {k : Nat} : ∀ c p j, p ≤ j → j < yt_r s k c p → yt_k (s.getD j 0) = k := by
  intro c
  induction c with
  | zero =>
    intro p j h1 h2
    rw [yt_r] at h2
    omega
  | succ c ih =>
    intro p j h1 h2
    rw [yt_r] at h2
    split at h2
    · next e =>
      by_cases e2 : j = p
      · rw [e2]
        exact e
      · exact ih (p + 1) j (by omega) h2
    · omega
/-- where the token behind p begins -/
def yt_s (s : List Nat) (p : Nat) : Nat := yt_b s (s.length - p) p
/-- where the token that begins at p ends -/
def yt_e (s : List Nat) (p : Nat) : Nat := if s.length ≤ p then p else if yt_k (s.getD p 0) = 1 ∨ yt_k (s.getD p 0) = 2 then yt_r s (yt_k (s.getD p 0)) (s.length - (p + 1)) (p + 1) else p + 1
/-- its kind -/
def yt_q (s : List Nat) (p : Nat) : Nat := if s.length ≤ p then 0 else if yt_k (s.getD p 0) = 2 ∧ 3 < yt_e s p - p then 7 else yt_k (s.getD p 0)
def yt_w (s : List Nat) : Nat → Nat → Nat → Nat
  | 0, _, x => x
  | c + 1, p, x => yt_w s c (p + 1) (10 * x + (s.getD p 0 - 48))
/-- a number's value -/
def yt_v (s : List Nat) (p : Nat) : Nat := yt_w s (yt_e s p - p) p 0
theorem yt_sb {s : List Nat} {p : Nat} (h : p ≤ s.length) : p ≤ yt_s s p ∧ yt_s s p ≤ s.length := yt_bb _ p (by omega)
theorem yt_eb {s : List Nat} {p : Nat} (h : p ≤ s.length) : p ≤ yt_e s p ∧ yt_e s p ≤ s.length ∧ (p < s.length → p < yt_e s p) := by
  unfold yt_e
  split
  · omega
  · split
    · have := yt_rb (s := s) (k := yt_k (s.getD p 0)) (s.length - (p + 1)) (p + 1) (by omega)
      omega
    · omega
theorem yt_q0 {s : List Nat} {p : Nat} (h : p ≤ s.length) : yt_q s p = 0 ↔ p = s.length := by
  unfold yt_q
  have := yt_kb (s.getD p 0)
  split
  · omega
  · split <;> omega
theorem yt_qb (s : List Nat) (p : Nat) : yt_q s p ≤ 7 := by
  unfold yt_q
  have := yt_kb (s.getD p 0)
  split
  · omega
  · split <;> omega
theorem yt_wb {s : List Nat} : ∀ c p x, (∀ j, p ≤ j → j < p + c → s.getD j 0 ≤ 57) → yt_w s c p x + 1 ≤ 10 ^ c * (x + 1) := by
  intro c
  induction c with
  | zero =>
    intro p x h
    rw [yt_w]
    omega
  | succ c ih =>
    intro p x h
    rw [yt_w]
    have h1 := ih (p + 1) (10 * x + (s.getD p 0 - 48)) (fun j a b => h j (by omega) (by omega))
    have h2 := h p (Nat.le_refl p) (by omega)
    refine Nat.le_trans h1 ?_
    rw [Nat.pow_succ, Nat.mul_assoc]
    exact Nat.mul_le_mul_left _ (by omega)
/-- a word's bytes are letters -/
theorem yt_q1 {s : List Nat} {p : Nat} (h : yt_q s p = 1) : p < s.length ∧ ∀ j, p ≤ j → j < yt_e s p → yt_k (s.getD j 0) = 1 := by
  unfold yt_q at h
  by_cases e1 : s.length ≤ p
  · rw [if_pos e1] at h
    omega
  · rw [if_neg e1] at h
    by_cases e2 : yt_k (s.getD p 0) = 2 ∧ 3 < yt_e s p - p
    · rw [if_pos e2] at h
      omega
    · rw [if_neg e2] at h
      refine ⟨by omega, fun j h1 h2 => ?_⟩
      unfold yt_e at h2
      rw [if_neg e1, if_pos (Or.inl h), h] at h2
      by_cases e3 : j = p
      · rw [e3]
        exact h
      · exact yt_rk _ (p + 1) j (by omega) h2
/-- a number's bytes are digits, three at most -/
theorem yt_q2 {s : List Nat} {p : Nat} (h : yt_q s p = 2) : p < s.length ∧ yt_e s p - p ≤ 3 ∧ ∀ j, p ≤ j → j < yt_e s p → yt_k (s.getD j 0) = 2 := by
  unfold yt_q at h
  by_cases e1 : s.length ≤ p
  · rw [if_pos e1] at h
    omega
  · rw [if_neg e1] at h
    by_cases e2 : yt_k (s.getD p 0) = 2 ∧ 3 < yt_e s p - p
    · rw [if_pos e2] at h
      omega
    · rw [if_neg e2] at h
      refine ⟨by omega, by omega, fun j h1 h2 => ?_⟩
      unfold yt_e at h2
      rw [if_neg e1, if_pos (Or.inr h), h] at h2
      by_cases e3 : j = p
      · rw [e3]
        exact h
      · exact yt_rk _ (p + 1) j (by omega) h2
theorem yt_v999 {s : List Nat} {p : Nat} (h : yt_q s p = 2) : yt_v s p ≤ 999 := by
  obtain ⟨h1, h2, h3⟩ := yt_q2 h
  have h4 := yt_wb (s := s) (yt_e s p - p) p 0 (fun j a b => (yt_k2 (h3 j a (by omega))).2)
  have h5 : 10 ^ (yt_e s p - p) ≤ 10 ^ 3 := Nat.pow_le_pow_right (by decide) h2
  unfold yt_v
  omega
/-! THE CLASS'S SCRIPT: the script's state at 206 and its numbers; all else stays. -/
abbrev yB : Type := (Nat → Nat) × (Nat → List Nat) × (Nat → Nat → List Nat) × (Nat → Nat) × (Nat → List Nat) × (Nat → Nat)
def yc (B : yB) (h : zH) (A : zA) (nu : Nat → Int) : Prop := ∃ S, zc h (zc_u B.1 206 A.1) (zc_u B.2.1 206 A.2.1) (zc_u B.2.2.1 206 S) (zc_u B.2.2.2.1 206 A.2.2.length) B.2.2.2.2.1 nu B.2.2.2.2.2 ∧ (List.range A.2.2.length).map S = A.2.2 ∧ zv_ok A
/-- the source -/
def yW (B : yB) : List Nat := B.2.2.2.2.1 204
theorem zc_uu {α : Type} (f : Nat → α) (q : Nat) (v w : α) : zc_u (zc_u f q v) q w = zc_u f q w := by
  funext p
  unfold zc_u
  split <;> rfl
theorem zc_ue {α : Type} (f : Nat → α) (q : Nat) : zc_u f q (f q) = f := by
  funext p
  unfold zc_u
  split
  · next e => rw [e]
  · rfl
theorem zw_mul (a b : Int) : Int32.ofInt a * Int32.ofInt b = Int32.ofInt (a * b) := (Int32.ofInt_mul ..).symm
section YCA
variable {N : Nat} {B : yB} {h : zH} {A : zA} {nu : Nat → Int}
theorem yc_T (Y : yc B h A nu) : fT h 203 2 = true := by
  obtain ⟨S, C, _⟩ := Y
  exact zc_T2 C
theorem yc_r0 (Y : yc B h A nu) : fR h 203 2 0 = some 204 := by
  obtain ⟨S, C, _⟩ := Y
  exact zc_r20 C
theorem yc_r1 (Y : yc B h A nu) : fR h 203 2 1 = some 206 := by
  obtain ⟨S, C, _⟩ := Y
  exact zc_r21 C
theorem yc_i (Y : yc B h A nu) (k : Nat) (hk : 2 ≤ k ∧ k ≤ 9) : fI h 203 2 k = some (Int32.ofInt (nu k)) := by
  obtain ⟨S, C, _⟩ := Y
  exact zc_sc C k hk
theorem yc_s (Y : yc B h A nu) (k : Nat) (hk : 2 ≤ k ∧ k ≤ 9) (x : Int) : ∃ h', fS h 203 2 k (.int (Int32.ofInt x)) = some h' ∧ yc B h' A (zc_u nu k x) ∧ zc_F h h' := by
  obtain ⟨S, C, hS, ok⟩ := Y
  obtain ⟨h1, e1, C1, F1⟩ := zc_scs C k hk x
  exact ⟨h1, e1, ⟨S, C1, hS, ok⟩, F1⟩
theorem yc_W (Y : yc B h A nu) : zw_W h 204 600 (yW B) := by
  obtain ⟨S, C, _⟩ := Y
  exact zc_wd C (Or.inl ⟨rfl, rfl⟩)
theorem yc_ok (Y : yc B h A nu) : zv_ok A := by
  obtain ⟨S, C, hS, ok⟩ := Y
  exact ok
/-- the script's state opened -/
theorem yc_st (Y : yc B h A nu) : ∃ S, zs_S h 206 A.1 A.2.1 S A.2.2.length ∧ (List.range A.2.2.length).map S = A.2.2 ∧ ∀ h' L' T' S' K', zs_S h' 206 L' T' S' K' → zs_F h h' 206 → zv_ok (L', T', (List.range K').map S') → yc B h' (L', T', (List.range K').map S') nu ∧ zc_F h h' := by
  obtain ⟨S, C, hS, ok⟩ := Y
  have H := zc_st C (q := 206) (Or.inr (Or.inr rfl))
  rw [zc_us, zc_us, zc_us, zc_us] at H
  refine ⟨S, H, hS, fun h' L' T' S' K' H' F ok' => ?_⟩
  obtain ⟨C2, F2⟩ := zc_state C (q := 206) (Or.inr (Or.inr rfl)) H' F
  rw [zc_uu, zc_uu, zc_uu, zc_uu] at C2
  have hl : ((List.range K').map S').length = K' := by rw [List.length_map, List.length_range]
  refine ⟨⟨S', ?_, ?_, ok'⟩, F2⟩
  · show zc h' (zc_u B.1 206 L') (zc_u B.2.1 206 T') (zc_u B.2.2.1 206 S') (zc_u B.2.2.2.1 206 ((List.range K').map S').length) B.2.2.2.2.1 nu B.2.2.2.2.2
    rw [hl]
    exact C2
  · show (List.range ((List.range K').map S').length).map S' = _
    rw [hl]
theorem yc_t (Y : yc B h A nu) : fR h 206 3 1 = some (206 + 1) := by
  obtain ⟨S, H, _⟩ := yc_st Y
  exact zs_t H
theorem yc_txt (Y : yc B h A nu) : zw_W h (206 + 1) 120 A.2.1 := by
  obtain ⟨S, H, _⟩ := yc_st Y
  exact H.2.2.2.1
/-- the text changed -/
theorem yc_text {h' : zH} {T : List Nat} (Y : yc B h A nu) (W : zw_W h' (206 + 1) 120 T) (F : zw_F h h' (206 + 1)) (hT : zv_L A T) : yc B h' (A.1, T, A.2.2) nu ∧ zc_F h h' := by
  have ok := yc_ok Y
  obtain ⟨S, H, hS, cl⟩ := yc_st Y
  obtain ⟨H2, F2⟩ := zs_text H W F
  have := cl h' _ _ _ _ H2 F2 ⟨ok.1, W.2.2.2.1, hT, by rw [hS]; exact ok.2.2.2.1, by rw [hS]; exact ok.2.2.2.2⟩
  rw [hS] at this
  exact this
/-- blanks passed -/
theorem yc_skip : ∀ (c f p : Nat) (h : zH) (nu : Nat → Int), yc B h A nu → nu 6 = (p : Int) → p + c = (yW B).length → c < f → ∃ h' nu', fC_readToken_0 N f 203 h = fC_readToken_46 N 203 h' ∧ yc B h' A nu' ∧ zc_F h h' ∧ nu' 6 = (yt_b (yW B) c p : Int) ∧ ∀ k, k ≠ 6 → nu' k = nu k := by
  intro c
  induction c with
  | zero =>
    intro f p h nu Y h6 h1 h2
    obtain ⟨g, rfl⟩ : ∃ g, f = g + 1 := ⟨f - 1, by omega⟩
    have W := yc_W Y
    have l6 := W.2.2.2.1
    refine ⟨h, nu, ?_, Y, zc_Fr h, h6, fun _ _ => rfl⟩
    rw [fC_readToken_0, yc_i Y 6 (by decide), b1_s, h6, yc_r0 Y, b1_s, zw_z W, b1_s, zqo_ge _ _ (by omega) (by omega), decide_eq_true (by omega), cond_true]
  | succ c ih =>
    intro f p h nu Y h6 h1 h2
    obtain ⟨g, rfl⟩ : ∃ g, f = g + 1 := ⟨f - 1, by omega⟩
    have W := yc_W Y
    have l6 := W.2.2.2.1
    have g1 := zw_gD W.2.2.2.2.2 p
    have kb := yt_kb ((yW B).getD p 0)
    by_cases e : yt_k ((yW B).getD p 0) = 6
    · obtain ⟨h5, e5, Y5, F5⟩ := yc_s Y 6 (by decide) ((p : Int) + 1)
      obtain ⟨h7, n7, e7, Y7, F7, p7, r7⟩ := ih g (p + 1) h5 _ Y5 (zc_us _ _ _) (by omega) (by omega)
      refine ⟨h7, n7, ?_, Y7, zc_Ft F5 F7, ?_, fun k hk => (r7 k hk).trans (zc_un nu _ hk)⟩
      · rw [fC_readToken_0, yc_i Y 6 (by decide), b1_s, h6, yc_r0 Y, b1_s, zw_z W, b1_s, zqo_ge _ _ (by omega) (by omega), decide_eq_false (by omega), cond_false, b1_s, b1_s, zw_at W _ (by omega), b2, zw_gi (by omega), show ((p : Nat) : Int).toNat = p by omega, yt_kind N _ g1, b2, zqo_ne _ _ (by omega) (by decide), decide_eq_true (by omega), Bool.not_true, cond_false, yc_i Y 6 (by decide), b1_s, h6, zw_add, e5, b1_s]
        exact e7
      · rw [yt_b, if_pos e]
        exact p7
    · refine ⟨h, nu, ?_, Y, zc_Fr h, ?_, fun _ _ => rfl⟩
      · rw [fC_readToken_0, yc_i Y 6 (by decide), b1_s, h6, yc_r0 Y, b1_s, zw_z W, b1_s, zqo_ge _ _ (by omega) (by omega), decide_eq_false (by omega), cond_false, b1_s, b1_s, zw_at W _ (by omega), b2, zw_gi (by omega), show ((p : Nat) : Int).toNat = p by omega, yt_kind N _ g1, b2, zqo_ne _ _ (by omega) (by decide), decide_eq_false (by omega), Bool.not_false, cond_true]
      · rw [yt_b, if_neg e]
        exact h6
/-- bytes of the token's kind passed -/
theorem yc_more {q : Nat} (hq : q ≤ 7) : ∀ (c f p : Nat) (h : zH) (nu : Nat → Int), yc B h A nu → nu 6 = (p : Int) → nu 4 = (q : Int) → p + c = (yW B).length → c < f → ∃ h' nu', fC_readToken_105 N f 203 h = fC_readToken_153 N 203 h' ∧ yc B h' A nu' ∧ zc_F h h' ∧ nu' 6 = (yt_r (yW B) q c p : Int) ∧ ∀ k, k ≠ 6 → nu' k = nu k := by
  intro c
  induction c with
  | zero =>
    intro f p h nu Y h6 h4 h1 h2
    obtain ⟨g, rfl⟩ : ∃ g, f = g + 1 := ⟨f - 1, by omega⟩
    have W := yc_W Y
    have l6 := W.2.2.2.1
    refine ⟨h, nu, ?_, Y, zc_Fr h, h6, fun _ _ => rfl⟩
    rw [fC_readToken_105, yc_i Y 6 (by decide), b1_s, h6, yc_r0 Y, b1_s, zw_z W, b1_s, zqo_ge _ _ (by omega) (by omega), decide_eq_true (by omega), cond_true]
  | succ c ih =>
    intro f p h nu Y h6 h4 h1 h2
    obtain ⟨g, rfl⟩ : ∃ g, f = g + 1 := ⟨f - 1, by omega⟩
    have W := yc_W Y
    have l6 := W.2.2.2.1
    have g1 := zw_gD W.2.2.2.2.2 p
    have kb := yt_kb ((yW B).getD p 0)
    by_cases e : yt_k ((yW B).getD p 0) = q
    · obtain ⟨h5, e5, Y5, F5⟩ := yc_s Y 6 (by decide) ((p : Int) + 1)
      obtain ⟨h7, n7, e7, Y7, F7, p7, r7⟩ := ih g (p + 1) h5 _ Y5 (zc_us _ _ _) ((zc_un nu _ (by decide)).trans h4) (by omega) (by omega)
      refine ⟨h7, n7, ?_, Y7, zc_Ft F5 F7, ?_, fun k hk => (r7 k hk).trans (zc_un nu _ hk)⟩
      · rw [fC_readToken_105, yc_i Y 6 (by decide), b1_s, h6, yc_r0 Y, b1_s, zw_z W, b1_s, zqo_ge _ _ (by omega) (by omega), decide_eq_false (by omega), cond_false, b1_s, b1_s, zw_at W _ (by omega), b2, zw_gi (by omega), show ((p : Nat) : Int).toNat = p by omega, yt_kind N _ g1, b2, yc_i Y 4 (by decide), b1_s, h4, zqo_ne _ _ (by omega) (by omega), decide_eq_true (by omega), Bool.not_true, cond_false, yc_i Y 6 (by decide), b1_s, h6, zw_add, e5, b1_s]
        exact e7
      · rw [yt_r, if_pos e]
        exact p7
    · refine ⟨h, nu, ?_, Y, zc_Fr h, ?_, fun _ _ => rfl⟩
      · rw [fC_readToken_105, yc_i Y 6 (by decide), b1_s, h6, yc_r0 Y, b1_s, zw_z W, b1_s, zqo_ge _ _ (by omega) (by omega), decide_eq_false (by omega), cond_false, b1_s, b1_s, zw_at W _ (by omega), b2, zw_gi (by omega), show ((p : Nat) : Int).toNat = p by omega, yt_kind N _ g1, b2, yc_i Y 4 (by decide), b1_s, h4, zqo_ne _ _ (by omega) (by omega), decide_eq_false (by omega), Bool.not_false, cond_true]
      · rw [yt_r, if_neg e]
        exact h6
/-- a number's value -/
theorem yc_value {e0 : Nat} : ∀ (c f i x : Nat) (h : zH) (nu : Nat → Int), yc B h A nu → nu 6 = (e0 : Int) → nu 7 = (x : Int) → i + c = e0 → e0 ≤ (yW B).length → c < f → (∀ j, i ≤ j → j < e0 → yt_k ((yW B).getD j 0) = 2) → ∃ h' nu', fC_readNumber_30 N f 203 (Int32.ofInt (i : Int)) h = some ((), h') ∧ yc B h' A nu' ∧ zc_F h h' ∧ nu' 7 = (yt_w (yW B) c i x : Int) ∧ ∀ k, k ≠ 7 → nu' k = nu k := by
  intro c
  induction c with
  | zero =>
    intro f i x h nu Y h6 h7 h1 h8 h2 h3
    obtain ⟨g, rfl⟩ : ∃ g, f = g + 1 := ⟨f - 1, by omega⟩
    have l6 := (yc_W Y).2.2.2.1
    refine ⟨h, nu, ?_, Y, zc_Fr h, h7, fun _ _ => rfl⟩
    rw [fC_readNumber_30, yc_i Y 6 (by decide), b1_s, h6, zqo_ge _ _ (by omega) (by omega), decide_eq_true (by omega), cond_true]
  | succ c ih =>
    intro f i x h nu Y h6 h7 h1 h8 h2 h3
    obtain ⟨g, rfl⟩ : ∃ g, f = g + 1 := ⟨f - 1, by omega⟩
    have W := yc_W Y
    have l6 := W.2.2.2.1
    have d := yt_k2 (h3 i (Nat.le_refl i) (by omega))
    obtain ⟨h5, e5, Y5, F5⟩ := yc_s Y 7 (by decide) ((x : Int) * 10 + ((yW B).getD i 0 : Int) - 48)
    obtain ⟨h9, n9, e9, Y9, F9, p9, r9⟩ := ih g (i + 1) (10 * x + ((yW B).getD i 0 - 48)) h5 _ Y5 ((zc_un nu _ (by decide)).trans h6) (by rw [zc_us]; omega) (by omega) h8 (by omega) (fun j a b => h3 j (by omega) b)
    refine ⟨h9, n9, ?_, Y9, zc_Ft F5 F9, p9, fun k hk => (r9 k hk).trans (zc_un nu _ hk)⟩
    rw [fC_readNumber_30, yc_i Y 6 (by decide), b1_s, h6, zqo_ge _ _ (by omega) (by omega), decide_eq_false (by omega), cond_false, yc_i Y 7 (by decide), b1_s, h7, yc_r0 Y, b1_s, zw_at W _ (by omega), b2, zw_gi (by omega), show ((i : Nat) : Int).toNat = i by omega, zw_mul, zw_add, zw_sub, e5, b1_s, zh_inc]
    exact e9
end YCA
end
section
/-! THE CLASS'S SCRIPT: a token read; what is expected. -/
/-- the numbers that a token leaves -/
def yn (nu nu' : Nat → Int) : Prop := ∀ k, (k < 2 ∨ 7 < k) → nu' k = nu k
theorem yn_r (nu : Nat → Int) : yn nu nu := fun _ _ => rfl
theorem yn_t {a b c : Nat → Int} (x : yn a b) (y : yn b c) : yn a c := fun k hk => (y k hk).trans (x k hk)
section YCB
variable {N : Nat} {B : yB} {h : zH} {A : zA} {nu : Nat → Int}
theorem yc_number (hN : 1000 ≤ N) (Y : yc B h A nu) {p : Nat} (h5 : nu 5 = (p : Int)) (h6 : nu 6 = (yt_e (yW B) p : Int)) (h4 : nu 4 = 2) (hp : p < (yW B).length) (hq : yt_k ((yW B).getD p 0) = 2) : ∃ h' nu', fC_readNumber N 203 h = some ((), h') ∧ yc B h' A nu' ∧ zc_F h h' ∧ nu' 4 = (yt_q (yW B) p : Int) ∧ (yt_q (yW B) p = 2 → nu' 7 = (yt_v (yW B) p : Int)) ∧ (yt_q (yW B) p ≠ 2 → nu' 7 = nu 7) ∧ ∀ k, k ≠ 4 → k ≠ 7 → nu' k = nu k := by
  have l6 := (yc_W Y).2.2.2.1
  have eb := yt_eb (s := yW B) (p := p) (by omega)
  by_cases e : yt_e (yW B) p - p ≤ 3
  · have q2 : yt_q (yW B) p = 2 := by
      unfold yt_q
      rw [if_neg (by omega), if_neg (by omega)]
      exact hq
    obtain ⟨_, _, dg⟩ := yt_q2 q2
    obtain ⟨h1, e1, Y1, F1⟩ := yc_s Y 7 (by decide) 0
    obtain ⟨h2, n2, e2, Y2, F2, p2, r2⟩ := yc_value (N := N) (e0 := yt_e (yW B) p) (yt_e (yW B) p - p) N p 0 h1 _ Y1 ((zc_un nu _ (by decide)).trans h6) (zc_us _ _ _) (by omega) eb.2.1 (by omega) dg
    refine ⟨h2, n2, ?_, Y2, zc_Ft F1 F2, ?_, fun _ => p2, fun x => absurd q2 x, fun k k4 k7 => (r2 k k7).trans (zc_un nu _ k7)⟩
    · unfold fC_readNumber
      rw [yc_T Y, cond_true, yc_i Y 6 (by decide), b1_s, h6, yc_i Y 5 (by decide), b1_s, h5, zw_sub, zqo_le _ _ (by omega) (by decide), decide_eq_true (by omega), cond_true, e1, b1_s, yc_i Y1 5 (by decide), b1_s, zc_un nu _ (show (5 : Nat) ≠ 7 by decide), h5]
      exact e2
    · rw [q2, r2 4 (by decide), zc_un nu _ (show (4 : Nat) ≠ 7 by decide)]
      exact h4
  · have q7 : yt_q (yW B) p = 7 := by
      unfold yt_q
      rw [if_neg (by omega), if_pos ⟨hq, by omega⟩]
    obtain ⟨h1, e1, Y1, F1⟩ := yc_s Y 4 (by decide) 7
    refine ⟨h1, _, ?_, Y1, F1, ?_, fun x => ?_, fun _ => zc_un nu _ (by decide), fun k k4 _ => zc_un nu _ k4⟩
    · unfold fC_readNumber
      rw [yc_T Y, cond_true, yc_i Y 6 (by decide), b1_s, h6, yc_i Y 5 (by decide), b1_s, h5, zw_sub, zqo_le _ _ (by omega) (by decide), decide_eq_false (by omega), cond_false, e1, b1_s]
    · rw [q7]
      exact zc_us _ _ _
    · rw [q7] at x
      exact absurd x (by decide)
/-- what the numbers are behind the token that begins at p -/
def yk (s : List Nat) (p : Nat) (nu nu' : Nat → Int) : Prop := nu' 4 = (yt_q s p : Int) ∧ nu' 5 = (p : Int) ∧ nu' 6 = (yt_e s p : Int) ∧ (yt_q s p = 2 → nu' 7 = (yt_v s p : Int)) ∧ (yt_q s p ≠ 2 → nu' 7 = nu 7) ∧ ∀ k, (k < 4 ∨ 7 < k) → nu' k = nu k
theorem yc_153 (hN : 1000 ≤ N) (Y : yc B h A nu) {p : Nat} (h5 : nu 5 = (p : Int)) (h6 : nu 6 = (yt_e (yW B) p : Int)) (h4 : nu 4 = (yt_k ((yW B).getD p 0) : Int)) (hp : p < (yW B).length) : ∃ h' nu', fC_readToken_153 N 203 h = some ((), h') ∧ yc B h' A nu' ∧ zc_F h h' ∧ yk (yW B) p nu nu' := by
  have kb := yt_kb ((yW B).getD p 0)
  by_cases e : yt_k ((yW B).getD p 0) = 2
  · obtain ⟨h1, n1, e1, Y1, F1, q4, q7, r7, r⟩ := yc_number hN Y h5 h6 (h4.trans (by omega)) hp e
    refine ⟨h1, n1, ?_, Y1, F1, q4, (r 5 (by decide) (by decide)).trans h5, (r 6 (by decide) (by decide)).trans h6, q7, r7, fun k hk => r k (by omega) (by omega)⟩
    unfold fC_readToken_153
    rw [yc_i Y 4 (by decide), b1_s, h4, zqo_ne _ _ (by omega) (by decide), decide_eq_true (by omega), Bool.not_true, cond_false, e1, b2]
  · have q : yt_q (yW B) p = yt_k ((yW B).getD p 0) := by
      unfold yt_q
      rw [if_neg (by omega), if_neg (fun x => e x.1)]
    refine ⟨h, nu, ?_, Y, zc_Fr h, by rw [q]; exact h4, h5, h6, fun x => absurd (q.symm.trans x) e, fun _ => rfl, fun _ _ => rfl⟩
    unfold fC_readToken_153
    rw [yc_i Y 4 (by decide), b1_s, h4, zqo_ne _ _ (by omega) (by decide), decide_eq_false (by omega), Bool.not_false, cond_true]
theorem yc_46 (hN : 1000 ≤ N) (Y : yc B h A nu) {p : Nat} (h6 : nu 6 = (p : Int)) (hp : p ≤ (yW B).length) : ∃ h' nu', fC_readToken_46 N 203 h = some ((), h') ∧ yc B h' A nu' ∧ zc_F h h' ∧ yk (yW B) p nu nu' := by
  have l6 := (yc_W Y).2.2.2.1
  have l256 := (yc_W Y).2.2.2.2.2
  obtain ⟨h1, e1, Y1, F1⟩ := yc_s Y 5 (by decide) (p : Int)
  have W1 := yc_W Y1
  by_cases e : (yW B).length ≤ p
  · obtain ⟨h2, e2, Y2, F2⟩ := yc_s Y1 4 (by decide) 0
    have q0 : yt_q (yW B) p = 0 := (yt_q0 hp).mpr (by omega)
    have ee : yt_e (yW B) p = p := by
      unfold yt_e
      rw [if_pos e]
    refine ⟨h2, _, ?_, Y2, zc_Ft F1 F2, ?_, ?_, ?_, fun x => absurd (q0.symm.trans x) (by decide), fun _ => ?_, fun k hk => ?_⟩
    · unfold fC_readToken_46
      rw [yc_i Y 6 (by decide), b1_s, h6, e1, b1_s, yc_r0 Y1, b1_s, yc_i Y1 6 (by decide), b1_s, zc_un nu _ (show (6 : Nat) ≠ 5 by decide), h6, zw_at W1 _ (by omega), b2, zw_go (Or.inr (by omega)), yt_kindE, b2, e2, b1_s, yc_i Y2 4 (by decide), b1_s, zc_us, show z_cmp .eq (Int32.ofInt 0) (Int32.ofInt 0) = true from rfl, cond_true]
      unfold fC_readToken_89
      rw [yc_i Y2 4 (by decide), b1_s, zc_us, show z_cmp .eq (Int32.ofInt 0) (Int32.ofInt 1) = false from rfl, cond_false, b1_s, show z_cmp .ne (Int32.ofInt 0) (Int32.ofInt 2) = true from rfl, cond_true]
      unfold fC_readToken_153
      rw [yc_i Y2 4 (by decide), b1_s, zc_us, show z_cmp .ne (Int32.ofInt 0) (Int32.ofInt 2) = true from rfl, cond_true]
    · rw [q0]
      exact zc_us _ _ _
    · rw [zc_un _ _ (show (5 : Nat) ≠ 4 by decide), zc_us]
    · rw [zc_un _ _ (show (6 : Nat) ≠ 4 by decide), zc_un _ _ (show (6 : Nat) ≠ 5 by decide), h6, ee]
    · rw [zc_un _ _ (show (7 : Nat) ≠ 4 by decide), zc_un _ _ (show (7 : Nat) ≠ 5 by decide)]
    · rw [zc_un _ _ (show k ≠ 4 by omega), zc_un _ _ (show k ≠ 5 by omega)]
  · have kb := yt_kb ((yW B).getD p 0)
    have g1 := zw_gD l256 p
    obtain ⟨h2, e2, Y2, F2⟩ := yc_s Y1 4 (by decide) (yt_k ((yW B).getD p 0) : Int)
    obtain ⟨h3, e3, Y3, F3⟩ := yc_s Y2 6 (by decide) ((p : Int) + 1)
    have s1 : fC_readToken_46 N 203 h = fC_readToken_89 N 203 h3 := by
      unfold fC_readToken_46
      rw [yc_i Y 6 (by decide), b1_s, h6, e1, b1_s, yc_r0 Y1, b1_s, yc_i Y1 6 (by decide), b1_s, zc_un nu _ (show (6 : Nat) ≠ 5 by decide), h6, zw_at W1 _ (by omega), b2, zw_gi (by omega), show ((p : Nat) : Int).toNat = p by omega, yt_kind N _ g1, b2, e2, b1_s, yc_i Y2 4 (by decide), b1_s, zc_us, zqo_eq _ _ (by omega) (by decide), decide_eq_false (by omega), cond_false, yc_i Y2 6 (by decide), b1_s, zc_un _ _ (show (6 : Nat) ≠ 4 by decide), zc_un _ _ (show (6 : Nat) ≠ 5 by decide), h6, zw_add, e3, b1_s]
    have n4 : zc_u (zc_u (zc_u nu 5 (p : Int)) 4 (yt_k ((yW B).getD p 0) : Int)) 6 ((p : Int) + 1) 4 = (yt_k ((yW B).getD p 0) : Int) := by rw [zc_un _ _ (show (4 : Nat) ≠ 6 by decide), zc_us]
    have n5 : zc_u (zc_u (zc_u nu 5 (p : Int)) 4 (yt_k ((yW B).getD p 0) : Int)) 6 ((p : Int) + 1) 5 = (p : Int) := by rw [zc_un _ _ (show (5 : Nat) ≠ 6 by decide), zc_un _ _ (show (5 : Nat) ≠ 4 by decide), zc_us]
    have nk : ∀ k, k ≠ 4 → k ≠ 5 → k ≠ 6 → zc_u (zc_u (zc_u nu 5 (p : Int)) 4 (yt_k ((yW B).getD p 0) : Int)) 6 ((p : Int) + 1) k = nu k := fun k a b c => by rw [zc_un _ _ c, zc_un _ _ a, zc_un _ _ b]
    have n6 : zc_u (zc_u (zc_u nu 5 (p : Int)) 4 (yt_k ((yW B).getD p 0) : Int)) 6 ((p : Int) + 1) 6 = (p : Int) + 1 := zc_us _ _ _
    by_cases ek : yt_k ((yW B).getD p 0) = 1 ∨ yt_k ((yW B).getD p 0) = 2
    · have s2 : fC_readToken_89 N 203 h3 = fC_readToken_105 N N 203 h3 := by
        unfold fC_readToken_89
        rw [yc_i Y3 4 (by decide), b1_s, n4, zqo_eq _ _ (by omega) (by decide)]
        by_cases ek1 : yt_k ((yW B).getD p 0) = 1
        · rw [decide_eq_true (by omega), cond_true]
        · rw [decide_eq_false (by omega), cond_false, b1_s, zqo_ne _ _ (by omega) (by decide), decide_eq_true (by omega), Bool.not_true, cond_false]
      obtain ⟨h4, m4, e4, Y4, F4, p4, r4⟩ := yc_more (N := N) (q := yt_k ((yW B).getD p 0)) (by omega) ((yW B).length - (p + 1)) N (p + 1) h3 _ Y3 (by rw [n6]; omega) n4 (by omega) (by omega)
      have ee : yt_e (yW B) p = yt_r (yW B) (yt_k ((yW B).getD p 0)) ((yW B).length - (p + 1)) (p + 1) := by
        unfold yt_e
        rw [if_neg e, if_pos ek]
      obtain ⟨h5, m5, e5, Y5, F5, K5⟩ := yc_153 hN Y4 (p := p) ((r4 5 (by decide)).trans n5) (by rw [ee]; exact p4) ((r4 4 (by decide)).trans n4) (by omega)
      refine ⟨h5, m5, by rw [s1, s2, e4, e5], Y5, zc_Ft F1 (zc_Ft F2 (zc_Ft F3 (zc_Ft F4 F5))), K5.1, K5.2.1, K5.2.2.1, K5.2.2.2.1, fun x => (K5.2.2.2.2.1 x).trans ((r4 7 (by decide)).trans (nk 7 (by decide) (by decide) (by decide))), fun k hk => (K5.2.2.2.2.2 k hk).trans ((r4 k (by omega)).trans (nk k (by omega) (by omega) (by omega)))⟩
    · have s2 : fC_readToken_89 N 203 h3 = fC_readToken_153 N 203 h3 := by
        unfold fC_readToken_89
        rw [yc_i Y3 4 (by decide), b1_s, n4, zqo_eq _ _ (by omega) (by decide), decide_eq_false (by omega), cond_false, b1_s, zqo_ne _ _ (by omega) (by decide), decide_eq_false (by omega), Bool.not_false, cond_true]
      have ee : yt_e (yW B) p = p + 1 := by
        unfold yt_e
        rw [if_neg e, if_neg ek]
      obtain ⟨h5, m5, e5, Y5, F5, K5⟩ := yc_153 hN Y3 (p := p) n5 (by rw [ee, n6]; omega) n4 (by omega)
      refine ⟨h5, m5, by rw [s1, s2, e5], Y5, zc_Ft F1 (zc_Ft F2 (zc_Ft F3 F5)), K5.1, K5.2.1, K5.2.2.1, K5.2.2.2.1, fun x => (K5.2.2.2.2.1 x).trans (nk 7 (by decide) (by decide) (by decide)), fun k hk => (K5.2.2.2.2.2 k hk).trans (nk k (by omega) (by omega) (by omega))⟩
/-- a token is read -/
theorem yc_tok (hN : 1000 ≤ N) (Y : yc B h A nu) {p : Nat} (h6 : nu 6 = (p : Int)) (hp : p ≤ (yW B).length) : ∃ h' nu', fC_readToken N 203 h = some ((), h') ∧ yc B h' A nu' ∧ zc_F h h' ∧ yk (yW B) (yt_s (yW B) p) nu nu' := by
  have l6 := (yc_W Y).2.2.2.1
  obtain ⟨h1, n1, e1, Y1, F1, p1, r1⟩ := yc_skip (N := N) ((yW B).length - p) N p h nu Y h6 (by omega) (by omega)
  obtain ⟨h2, n2, e2, Y2, F2, k1, k2, k3, k4, k5, k6⟩ := yc_46 hN Y1 (p := yt_s (yW B) p) p1 (yt_sb hp).2
  refine ⟨h2, n2, ?_, Y2, zc_Ft F1 F2, k1, k2, k3, k4, fun x => (k5 x).trans (r1 7 (by decide)), fun k hk => (k6 k hk).trans (r1 k (by omega))⟩
  unfold fC_readToken
  rw [yc_T Y, cond_true, e1, e2]
theorem yc_fail (Y : yc B h A nu) (x : Int) : ∃ h' nu', fC_fail N 203 (Int32.ofInt x) h = some (Int32.ofInt 0, h') ∧ yc B h' A nu' ∧ zc_F h h' ∧ ∀ k, k ≠ 2 → k ≠ 3 → nu' k = nu k := by
  obtain ⟨h1, e1, Y1, F1⟩ := yc_s Y 2 (by decide) x
  obtain ⟨h2, e2, Y2, F2⟩ := yc_s Y1 3 (by decide) (nu 5)
  refine ⟨h2, _, ?_, Y2, zc_Ft F1 F2, fun k k2 k3 => by rw [zc_un _ _ k3, zc_un _ _ k2]⟩
  unfold fC_fail
  rw [yc_T Y, cond_true, e1, b1_s, yc_i Y1 5 (by decide), b1_s, zc_un nu _ (show (5 : Nat) ≠ 2 by decide), e2, b1_s]
/-- one kind of token is expected -/
theorem yc_expect (hN : 1000 ≤ N) (Y : yc B h A nu) {p : Nat} (h6 : nu 6 = (p : Int)) (hp : p ≤ (yW B).length) (w : Int) (hw : 0 ≤ w ∧ w ≤ 7) : ((yt_q (yW B) (yt_s (yW B) p) : Int) = w ∧ ∃ h' nu', fC_expect N 203 (Int32.ofInt w) h = some (Int32.ofInt 1, h') ∧ yc B h' A nu' ∧ zc_F h h' ∧ yk (yW B) (yt_s (yW B) p) nu nu') ∨ ((yt_q (yW B) (yt_s (yW B) p) : Int) ≠ w ∧ ∃ h' nu', fC_expect N 203 (Int32.ofInt w) h = some (Int32.ofInt 0, h') ∧ yc B h' A nu' ∧ zc_F h h' ∧ yn nu nu') := by
  have qb := yt_qb (yW B) (yt_s (yW B) p)
  obtain ⟨h1, n1, e1, Y1, F1, K1⟩ := yc_tok hN Y h6 hp
  by_cases e : (yt_q (yW B) (yt_s (yW B) p) : Int) = w
  · refine Or.inl ⟨e, h1, n1, ?_, Y1, F1, K1⟩
    unfold fC_expect
    rw [yc_T Y, cond_true, e1, b2, yc_i Y1 4 (by decide), b1_s, K1.1, zqo_eq _ _ (by omega) (by omega), decide_eq_true e, cond_true]
    rfl
  · obtain ⟨h2, n2, e2, Y2, F2, r2⟩ := yc_fail (N := N) Y1 1
    refine Or.inr ⟨e, h2, n2, ?_, Y2, zc_Ft F1 F2, fun k hk => (r2 k (by omega) (by omega)).trans (K1.2.2.2.2.2 k (by omega))⟩
    unfold fC_expect
    rw [yc_T Y, cond_true, e1, b2, yc_i Y1 4 (by decide), b1_s, K1.1, zqo_eq _ _ (by omega) (by omega), decide_eq_false e, cond_false, e2, b2]
    rfl
end YCB
/-- a number in its bounds: its value and its end -/
def ym_num (s : List Nat) (p : Nat) (lo hi : Int) : Option (Nat × Nat) := if yt_q s (yt_s s p) = 2 ∧ lo ≤ (yt_v s (yt_s s p) : Int) ∧ (yt_v s (yt_s s p) : Int) ≤ hi then some (yt_v s (yt_s s p), yt_e s (yt_s s p)) else none
/-- a semicolon: its end -/
def ym_sem (s : List Nat) (p : Nat) : Option Nat := if yt_q s (yt_s s p) = 5 then some (yt_e s (yt_s s p)) else none
theorem ym_semb {s : List Nat} {p e : Nat} (hp : p ≤ s.length) (h : ym_sem s p = some e) : yt_q s (yt_s s p) = 5 ∧ e = yt_e s (yt_s s p) ∧ p < e ∧ e ≤ s.length := by
  unfold ym_sem at h
  split at h
  · next q =>
    cases h
    have b1' := yt_sb hp
    have b2' := yt_eb b1'.2
    have : yt_s s p ≠ s.length := fun x => by
      have := (yt_q0 b1'.2).mpr x
      omega
    exact ⟨q, rfl, by omega, b2'.2.1⟩
  · cases h
theorem ym_numb {s : List Nat} {p v e : Nat} {lo hi : Int} (hp : p ≤ s.length) (h : ym_num s p lo hi = some (v, e)) : yt_q s (yt_s s p) = 2 ∧ v = yt_v s (yt_s s p) ∧ e = yt_e s (yt_s s p) ∧ p < e ∧ e ≤ s.length ∧ lo ≤ (v : Int) ∧ (v : Int) ≤ hi ∧ v ≤ 999 := by
  unfold ym_num at h
  split at h
  · next q =>
    cases h
    have b1' := yt_sb hp
    have b2' := yt_eb b1'.2
    have : yt_s s p ≠ s.length := fun x => by
      have := (yt_q0 b1'.2).mpr x
      omega
    exact ⟨q.1, rfl, rfl, by omega, b2'.2.1, q.2.1, q.2.2, yt_v999 q.1⟩
  · cases h
section YCD
variable {N : Nat} {B : yB} {h : zH} {A : zA} {nu : Nat → Int}
theorem yc_num (hN : 1000 ≤ N) (Y : yc B h A nu) {p : Nat} (h6 : nu 6 = (p : Int)) (hp : p ≤ (yW B).length) (lo hi : Int) (hlo : -2147483648 ≤ lo ∧ lo < 2147483648) (hhi : -2147483648 ≤ hi ∧ hi < 2147483648) : (∃ v e, ym_num (yW B) p lo hi = some (v, e) ∧ ∃ h' nu', fC_expectNumber N 203 (Int32.ofInt lo) (Int32.ofInt hi) h = some (Int32.ofInt 1, h') ∧ yc B h' A nu' ∧ zc_F h h' ∧ yn nu nu' ∧ nu' 6 = (e : Int) ∧ nu' 7 = (v : Int)) ∨ (ym_num (yW B) p lo hi = none ∧ ∃ h' nu', fC_expectNumber N 203 (Int32.ofInt lo) (Int32.ofInt hi) h = some (Int32.ofInt 0, h') ∧ yc B h' A nu' ∧ zc_F h h' ∧ yn nu nu') := by
  have qb := yt_qb (yW B) (yt_s (yW B) p)
  obtain ⟨h1, n1, e1, Y1, F1, K1⟩ := yc_tok hN Y h6 hp
  have yn1 : yn nu n1 := fun k hk => K1.2.2.2.2.2 k (by omega)
  have s1 : ∀ g : Unit → zH → Option (Int32 × zH), cond (fT h 203 2) (b2 (fC_readToken N 203 h) g) none = g () h1 := fun g => by rw [yc_T Y, cond_true, e1, b2]
  by_cases e : yt_q (yW B) (yt_s (yW B) p) = 2
  · have v9 := yt_v999 e
    have k7 := K1.2.2.2.1 e
    obtain ⟨h2, n2, e2, Y2, F2, r2⟩ := yc_fail (N := N) Y1 2
    have yn2 : yn nu n2 := yn_t yn1 (fun k hk => r2 k (by omega) (by omega))
    have s34 : fC_expectNumber_34 N 203 h1 = some (Int32.ofInt 0, h2) := by
      unfold fC_expectNumber_34
      rw [e2, b2]
      rfl
    by_cases e3 : lo ≤ (yt_v (yW B) (yt_s (yW B) p) : Int)
    · by_cases e4 : (yt_v (yW B) (yt_s (yW B) p) : Int) ≤ hi
      · refine Or.inl ⟨_, _, if_pos ⟨e, e3, e4⟩, h1, n1, ?_, Y1, F1, yn1, K1.2.2.1, k7⟩
        unfold fC_expectNumber
        rw [s1, yc_i Y1 4 (by decide), b1_s, K1.1, zqo_eq _ _ (by omega) (by decide), decide_eq_true (by omega), cond_true, yc_i Y1 7 (by decide), b1_s, k7, zqo_lt _ _ (by omega) hlo, decide_eq_false (by omega), cond_false, b1_s, zqo_le _ _ (by omega) hhi, decide_eq_true e4, cond_true]
        rfl
      · refine Or.inr ⟨if_neg (fun x => e4 x.2.2), h2, n2, ?_, Y2, zc_Ft F1 F2, yn2⟩
        unfold fC_expectNumber
        rw [s1, yc_i Y1 4 (by decide), b1_s, K1.1, zqo_eq _ _ (by omega) (by decide), decide_eq_true (by omega), cond_true, yc_i Y1 7 (by decide), b1_s, k7, zqo_lt _ _ (by omega) hlo, decide_eq_false (by omega), cond_false, b1_s, zqo_le _ _ (by omega) hhi, decide_eq_false e4, cond_false]
        exact s34
    · refine Or.inr ⟨if_neg (fun x => e3 x.2.1), h2, n2, ?_, Y2, zc_Ft F1 F2, yn2⟩
      unfold fC_expectNumber
      rw [s1, yc_i Y1 4 (by decide), b1_s, K1.1, zqo_eq _ _ (by omega) (by decide), decide_eq_true (by omega), cond_true, yc_i Y1 7 (by decide), b1_s, k7, zqo_lt _ _ (by omega) hlo, decide_eq_true (by omega), cond_true]
      exact s34
  · obtain ⟨h2, n2, e2, Y2, F2, r2⟩ := yc_fail (N := N) Y1 1
    refine Or.inr ⟨if_neg (fun x => e x.1), h2, n2, ?_, Y2, zc_Ft F1 F2, yn_t yn1 (fun k hk => r2 k (by omega) (by omega))⟩
    unfold fC_expectNumber
    rw [s1, yc_i Y1 4 (by decide), b1_s, K1.1, zqo_eq _ _ (by omega) (by decide), decide_eq_false (by omega), cond_false, e2, b2]
    rfl
theorem yc_sem (hN : 1000 ≤ N) (Y : yc B h A nu) {p : Nat} (h6 : nu 6 = (p : Int)) (hp : p ≤ (yW B).length) : (∃ e, ym_sem (yW B) p = some e ∧ ∃ h' nu', fC_expect N 203 (Int32.ofInt 5) h = some (Int32.ofInt 1, h') ∧ yc B h' A nu' ∧ zc_F h h' ∧ yn nu nu' ∧ nu' 6 = (e : Int) ∧ nu' 7 = nu 7) ∨ (ym_sem (yW B) p = none ∧ ∃ h' nu', fC_expect N 203 (Int32.ofInt 5) h = some (Int32.ofInt 0, h') ∧ yc B h' A nu' ∧ zc_F h h' ∧ yn nu nu') := by
  rcases yc_expect hN Y h6 hp 5 (by decide) with ⟨e, h1, n1, e1, Y1, F1, K1⟩ | ⟨e, h1, n1, e1, Y1, F1, K1⟩
  · exact Or.inl ⟨_, if_pos (by omega), h1, n1, e1, Y1, F1, fun k hk => K1.2.2.2.2.2 k (by omega), K1.2.2.1, K1.2.2.2.2.1 (by omega)⟩
  · exact Or.inr ⟨if_neg (by omega), h1, n1, e1, Y1, F1, K1⟩
/-- the semicolon of a command that is possible or not -/
theorem yc_end (hN : 1000 ≤ N) (Y : yc B h A nu) {p : Nat} (h6 : nu 6 = (p : Int)) (hp : p ≤ (yW B).length) (b : Bool) : (∃ e, ym_sem (yW B) p = some e ∧ b = true ∧ ∃ h' nu', fC_expectEnd N 203 (cond b (Int32.ofInt 1) (Int32.ofInt 0)) h = some (Int32.ofInt 1, h') ∧ yc B h' A nu' ∧ zc_F h h' ∧ yn nu nu' ∧ nu' 6 = (e : Int) ∧ nu' 7 = nu 7) ∨ ((ym_sem (yW B) p = none ∨ b = false) ∧ ∃ h' nu', fC_expectEnd N 203 (cond b (Int32.ofInt 1) (Int32.ofInt 0)) h = some (Int32.ofInt 0, h') ∧ yc B h' A nu' ∧ zc_F h h' ∧ yn nu nu') := by
  have qb := yt_qb (yW B) (yt_s (yW B) p)
  obtain ⟨h1, n1, e1, Y1, F1, K1⟩ := yc_tok hN Y h6 hp
  have yn1 : yn nu n1 := fun k hk => K1.2.2.2.2.2 k (by omega)
  have s1 : ∀ g : Unit → zH → Option (Int32 × zH), cond (fT h 203 2) (b2 (fC_readToken N 203 h) g) none = g () h1 := fun g => by rw [yc_T Y, cond_true, e1, b2]
  by_cases e : yt_q (yW B) (yt_s (yW B) p) = 5
  · cases b with
    | true =>
      refine Or.inl ⟨_, if_pos e, rfl, h1, n1, ?_, Y1, F1, yn1, K1.2.2.1, K1.2.2.2.2.1 (by omega)⟩
      unfold fC_expectEnd
      rw [s1, yc_i Y1 4 (by decide), b1_s, K1.1, zqo_eq _ _ (by omega) (by decide), decide_eq_true (by omega), cond_true, cond_true, show z_cmp .ne (Int32.ofInt 1) (Int32.ofInt 0) = true from rfl, cond_true]
      rfl
    | false =>
      obtain ⟨h2, n2, e2, Y2, F2, r2⟩ := yc_fail (N := N) Y1 3
      refine Or.inr ⟨Or.inr rfl, h2, n2, ?_, Y2, zc_Ft F1 F2, yn_t yn1 (fun k hk => r2 k (by omega) (by omega))⟩
      unfold fC_expectEnd
      rw [s1, yc_i Y1 4 (by decide), b1_s, K1.1, zqo_eq _ _ (by omega) (by decide), decide_eq_true (by omega), cond_true, cond_false, show z_cmp .ne (Int32.ofInt 0) (Int32.ofInt 0) = false from rfl, cond_false, e2, b2]
      rfl
  · obtain ⟨h2, n2, e2, Y2, F2, r2⟩ := yc_fail (N := N) Y1 1
    refine Or.inr ⟨Or.inl (if_neg e), h2, n2, ?_, Y2, zc_Ft F1 F2, yn_t yn1 (fun k hk => r2 k (by omega) (by omega))⟩
    unfold fC_expectEnd
    rw [s1, yc_i Y1 4 (by decide), b1_s, K1.1, zqo_eq _ _ (by omega) (by decide), decide_eq_false (by omega), cond_false, e2, b2]
    rfl
end YCD
end
section
/-! THE COMMANDS, on lists: what each makes of a state, and where it ends. -/
/-- a word of the letters: it and its end -/
def ym_word (s : List Nat) (L p : Nat) : Option (List Nat × Nat) := if yt_q s (yt_s s p) = 1 ∧ ∀ v ∈ zw_p s (yt_s s p) (yt_e s (yt_s s p)), v < 97 + L then some (zw_p s (yt_s s p) (yt_e s (yt_s s p)), yt_e s (yt_s s p)) else none
/-- a number in its bounds and a semicolon -/
def yx_n (s : List Nat) (p : Nat) (lo hi : Int) (f : Nat → Option zA) : Option (zA × Nat) := (ym_num s p lo hi).bind fun n => (ym_sem s n.2).bind fun e => (f n.1).bind fun A => some (A, e)
/-- a semicolon -/
def yx_s (s : List Nat) (p : Nat) (x : Option zA) : Option (zA × Nat) := (ym_sem s p).bind fun e => x.bind fun A => some (A, e)
def yx_text (T0 : List Nat) (s : List Nat) (A : zA) (p : Nat) : Option (zA × Nat) := (ym_word s A.1 p).bind fun w => (ym_sem s w.2).bind fun e => if T0.length + w.1.length ≤ 120 then some ((A.1, T0 ++ w.1, A.2.2), e) else none
def yf_drop (A : zA) (n : Nat) : Option zA := some (A.1, A.2.1.take (A.2.1.length - n), A.2.2)
def yf_rot (A : zA) (n : Nat) : Option zA := some (A.1, zw_trn A.2.1 n, A.2.2)
def yf_next (A : zA) (n : Nat) : Option zA := if zs_hn A.1 A.2.1 (n : Int) = true then some (A.1, zw_nx A.2.1 n (97 + A.1 - 1), A.2.2) else none
def yf_fac (A : zA) (n : Nat) : Option zA := if zw_lE A.2.1 (zw_bF A.2.1 (n : Int)).toNat - (zw_bF A.2.1 (n : Int)).toNat ≤ 40 ∧ A.2.2.length < 8 then some (A.1, A.2.1, A.2.2 ++ [zw_p A.2.1 (zw_bF A.2.1 (n : Int)).toNat (zw_lE A.2.1 (zw_bF A.2.1 (n : Int)).toNat)]) else none
def yf_rem (A : zA) (n : Nat) : Option zA := some (A.1, A.2.1, A.2.2.eraseIdx n)
def yf_keep (A : zA) : Option zA := if 1 ≤ A.2.1.length ∧ A.2.1.length ≤ 40 ∧ A.2.2.length < 8 then some (A.1, A.2.1, A.2.2 ++ [A.2.1]) else none
def yf_least (A : zA) : Option zA := if 0 < A.2.1.length then some (A.1, zw_trn A.2.1 (zm_least A.2.1), A.2.2) else none
def yf_join (A : zA) : Option zA := if 0 < A.2.2.length ∧ (A.2.2.map List.length).sum ≤ 120 then some (A.1, zv_jn A.2.2, A.2.2) else none
def yx_part (s : List Nat) (A : zA) (p : Nat) : Option (zA × Nat) := (ym_num s p 0 999).bind fun a => (ym_num s a.2 (a.1 : Int) (A.2.1.length : Int)).bind fun b => (ym_sem s b.2).bind fun e => some ((A.1, zw_p A.2.1 a.1 b.1, A.2.2), e)
def yx_keep (s : List Nat) (A : zA) (p : Nat) : Option (zA × Nat) := if yt_q s (yt_s s p) = 2 then yx_n s p 0 (((zw_fs A.2.1).length : Int) - 1) (yf_fac A) else yx_s s p (yf_keep A)
/-- a command by its number -/
def yx (i : Nat) (s : List Nat) (A : zA) (p : Nat) : Option (zA × Nat) := match i with
  | 0 => yx_text [] s A p
  | 1 => yx_text A.2.1 s A p
  | 2 => yx_n s p 0 (A.2.1.length : Int) (yf_drop A)
  | 3 => yx_part s A p
  | 4 => yx_n s p 0 (A.2.1.length : Int) (yf_rot A)
  | 5 => yx_s s p (some (A.1, zw_mir A.2.1 0 A.2.1.length, A.2.2))
  | 6 => yx_s s p (yf_least A)
  | 7 => yx_n s p 1 120 (yf_next A)
  | 8 => yx_keep s A p
  | 9 => yx_n s p 0 ((A.2.2.length : Int) - 1) (yf_rem A)
  | _ => yx_s s p (yf_join A)
/-- where a command ends -/
def yx_e (i : Nat) (s : List Nat) (p : Nat) : Nat :=
  if i = 3 then yt_e s (yt_s s (yt_e s (yt_s s (yt_e s (yt_s s p))))) else if i = 5 ∨ i = 6 ∨ 10 ≤ i ∨ (i = 8 ∧ yt_q s (yt_s s p) ≠ 2) then yt_e s (yt_s s p) else yt_e s (yt_s s (yt_e s (yt_s s p)))
theorem ym_wordb {s : List Nat} {L p e : Nat} {w : List Nat} (hp : p ≤ s.length) (h : ym_word s L p = some (w, e)) : yt_q s (yt_s s p) = 1 ∧ w = zw_p s (yt_s s p) e ∧ e = yt_e s (yt_s s p) ∧ p < e ∧ e ≤ s.length ∧ ∀ v ∈ w, v < 97 + L := by
  unfold ym_word at h
  split at h
  · next q =>
    cases h
    have b1' := yt_sb hp
    have b2' := yt_eb b1'.2
    have : yt_s s p ≠ s.length := fun x => by
      have := (yt_q0 b1'.2).mpr x
      omega
    exact ⟨q.1, rfl, rfl, by omega, b2'.2.1, q.2⟩
  · cases h
theorem yx_nb {s : List Nat} {p q : Nat} {lo hi : Int} {f : Nat → Option zA} {A' : zA} (hp : p ≤ s.length) (h : yx_n s p lo hi f = some (A', q)) : ∃ v e, ym_num s p lo hi = some (v, e) ∧ ym_sem s e = some q ∧ f v = some A' := by
  unfold yx_n at h
  cases e1 : ym_num s p lo hi with
  | none => rw [e1] at h; cases h
  | some n =>
    rw [e1] at h
    change (ym_sem s n.2).bind _ = _ at h
    cases e2 : ym_sem s n.2 with
    | none => rw [e2] at h; cases h
    | some e =>
      rw [e2] at h
      change (f n.1).bind _ = _ at h
      cases e3 : f n.1 with
      | none => rw [e3] at h; cases h
      | some A2 =>
        rw [e3] at h
        cases h
        exact ⟨n.1, n.2, rfl, e2, e3⟩
theorem yx_sb {s : List Nat} {p q : Nat} {x : Option zA} {A' : zA} (h : yx_s s p x = some (A', q)) : ym_sem s p = some q ∧ x = some A' := by
  unfold yx_s at h
  cases e2 : ym_sem s p with
  | none => rw [e2] at h; cases h
  | some e =>
    rw [e2] at h
    change x.bind _ = _ at h
    cases x with
    | none => cases h
    | some A2 =>
      cases h
      exact ⟨rfl, rfl⟩
theorem yx_textb {s T0 : List Nat} {p q : Nat} {A A' : zA} (h : yx_text T0 s A p = some (A', q)) : ∃ w e, ym_word s A.1 p = some (w, e) ∧ ym_sem s e = some q ∧ T0.length + w.length ≤ 120 ∧ A' = (A.1, T0 ++ w, A.2.2) := by
  unfold yx_text at h
  cases e1 : ym_word s A.1 p with
  | none => rw [e1] at h; cases h
  | some n =>
    rw [e1] at h
    change (ym_sem s n.2).bind _ = _ at h
    cases e2 : ym_sem s n.2 with
    | none => rw [e2] at h; cases h
    | some e =>
      rw [e2] at h
      change (if _ then _ else _) = _ at h
      split at h
      · next e3 =>
        cases h
        exact ⟨n.1, n.2, rfl, e2, e3, rfl⟩
      · cases h
theorem yx_partb {s : List Nat} {p q : Nat} {A A' : zA} (h : yx_part s A p = some (A', q)) : ∃ a e b e2, ym_num s p 0 999 = some (a, e) ∧ ym_num s e (a : Int) (A.2.1.length : Int) = some (b, e2) ∧ ym_sem s e2 = some q ∧ A' = (A.1, zw_p A.2.1 a b, A.2.2) := by
  unfold yx_part at h
  cases e1 : ym_num s p 0 999 with
  | none => rw [e1] at h; cases h
  | some n =>
    rw [e1] at h
    change (ym_num s n.2 (n.1 : Int) (A.2.1.length : Int)).bind _ = _ at h
    cases e2 : ym_num s n.2 (n.1 : Int) (A.2.1.length : Int) with
    | none => rw [e2] at h; cases h
    | some m =>
      rw [e2] at h
      change (ym_sem s m.2).bind _ = _ at h
      cases e3 : ym_sem s m.2 with
      | none => rw [e3] at h; cases h
      | some e =>
        rw [e3] at h
        cases h
        exact ⟨n.1, n.2, m.1, m.2, rfl, e2, e3, rfl⟩
theorem yx_nE {s : List Nat} {p q : Nat} {lo hi : Int} {f : Nat → Option zA} {A' : zA} (hp : p ≤ s.length) (h : yx_n s p lo hi f = some (A', q)) : p < q ∧ q ≤ s.length ∧ q = yt_e s (yt_s s (yt_e s (yt_s s p))) := by
  obtain ⟨v, e, e1, e2, _⟩ := yx_nb hp h
  obtain ⟨_, _, b3, b4, b5, _⟩ := ym_numb hp e1
  obtain ⟨_, c2, c3, c4⟩ := ym_semb b5 e2
  exact ⟨by omega, c4, by rw [c2, b3]⟩
theorem yx_sE {s : List Nat} {p q : Nat} {x : Option zA} {A' : zA} (hp : p ≤ s.length) (h : yx_s s p x = some (A', q)) : p < q ∧ q ≤ s.length ∧ q = yt_e s (yt_s s p) := by
  obtain ⟨_, c2, c3, c4⟩ := ym_semb hp (yx_sb h).1
  exact ⟨c3, c4, c2⟩
theorem yx_textE {s T0 : List Nat} {p q : Nat} {A A' : zA} (hp : p ≤ s.length) (h : yx_text T0 s A p = some (A', q)) : p < q ∧ q ≤ s.length ∧ q = yt_e s (yt_s s (yt_e s (yt_s s p))) := by
  obtain ⟨w, e, e1, e2, _⟩ := yx_textb h
  obtain ⟨_, _, b3, b4, b5, _⟩ := ym_wordb hp e1
  obtain ⟨_, c2, c3, c4⟩ := ym_semb b5 e2
  exact ⟨by omega, c4, by rw [c2, b3]⟩
/-- a command ends behind its beginning, at a place that the state has no part in -/
theorem yx_end {i : Nat} {s : List Nat} {p q : Nat} {A A' : zA} (hp : p ≤ s.length) (h : yx i s A p = some (A', q)) : p < q ∧ q ≤ s.length ∧ q = yx_e i s p := by
  unfold yx at h
  unfold yx_e
  split at h
  · exact yx_textE hp h
  · exact yx_textE hp h
  · exact yx_nE hp h
  · obtain ⟨a, e, b, e2, m1, m2, m3, _⟩ := yx_partb h
    obtain ⟨_, _, b3, b4, b5, _⟩ := ym_numb hp m1
    obtain ⟨_, _, c3, c4, c5, _⟩ := ym_numb b5 m2
    obtain ⟨_, d2, d3, d4⟩ := ym_semb c5 m3
    exact ⟨by omega, d4, by rw [d2, c3, b3]; rfl⟩
  · exact yx_nE hp h
  · exact yx_sE hp h
  · exact yx_sE hp h
  · exact yx_nE hp h
  · unfold yx_keep at h
    by_cases e : yt_q s (yt_s s p) = 2
    · rw [if_pos e] at h
      rw [if_neg (by decide), if_neg (by omega)]
      exact yx_nE hp h
    · rw [if_neg e] at h
      rw [if_neg (by decide), if_pos (Or.inr (Or.inr (Or.inr ⟨rfl, e⟩)))]
      exact yx_sE hp h
  · exact yx_nE hp h
  · next n0 n1 n2 n3 n4 n5 n6 n7 n8 n9 =>
    have k : ∀ j, j < 10 → i ≠ j := by
      intro j hj e
      have c : j = 0 ∨ j = 1 ∨ j = 2 ∨ j = 3 ∨ j = 4 ∨ j = 5 ∨ j = 6 ∨ j = 7 ∨ j = 8 ∨ j = 9 := by omega
      rcases c with c | c | c | c | c | c | c | c | c | c <;> subst c
      · exact n0 e
      · exact n1 e
      · exact n2 e
      · exact n3 e
      · exact n4 e
      · exact n5 e
      · exact n6 e
      · exact n7 e
      · exact n8 e
      · exact n9 e
    have k3 := k 3 (by decide)
    have k10 : 10 ≤ i := by
      rcases Nat.lt_or_ge i 10 with x | x
      · exact absurd rfl (k i x)
      · exact x
    rw [if_neg k3, if_pos (Or.inr (Or.inr (Or.inl k10)))]
    exact yx_sE hp h
end
section
/-! THE CLASS'S COMMANDS. -/
/-- how a command of the class's script ends: refused, or done and at its end -/
def yO (B : yB) (h : zH) (nu : Nat → Int) (r : Option (Int32 × zH)) (x : Option (zA × Nat)) : Prop := (x = none ∧ ∃ h' A' nu', r = some (Int32.ofInt 0, h') ∧ yc B h' A' nu' ∧ zc_F h h' ∧ yn nu nu') ∨ (∃ A' p', x = some (A', p') ∧ ∃ h' nu', r = some (Int32.ofInt 1, h') ∧ yc B h' A' nu' ∧ zc_F h h' ∧ yn nu nu' ∧ nu' 6 = (p' : Int))
section YCE
variable {N : Nat} {B : yB} {h : zH} {A : zA} {nu : Nat → Int}
theorem yc_drop (hN : 3000 ≤ N) (Y : yc B h A nu) {p : Nat} (h6 : nu 6 = (p : Int)) (hp : p ≤ (yW B).length) : yO B h nu (fC_runDrop N 203 h) (yx 2 (yW B) A p) := by
  have ok := yc_ok Y
  have o2 := ok.2.1
  show yO B h nu (fC_runDrop N 203 h) (yx_n (yW B) p 0 (A.2.1.length : Int) (yf_drop A))
  rcases yc_num (N := N) (by omega) Y h6 hp 0 (A.2.1.length : Int) (by decide) (by omega) with ⟨v, e, m1, h1, n1, e1, Y1, F1, y1, p1, v1⟩ | ⟨m1, h1, n1, e1, Y1, F1, y1⟩
  · obtain ⟨_, _, _, pe, el, _, vl, _⟩ := ym_numb hp m1
    rcases yc_sem (N := N) (by omega) Y1 p1 el with ⟨e', m2, h2, n2, e2, Y2, F2, y2, p2, v2⟩ | ⟨m2, h2, n2, e2, Y2, F2, y2⟩
    · obtain ⟨h3, e3, W3, F3⟩ := zw_shorten (N := N) (yc_txt Y2) ((A.2.1.length : Int) - (v : Int)) (by omega)
      rw [if_pos (by omega), show ((A.2.1.length : Int) - (v : Int)).toNat = A.2.1.length - v by omega] at W3
      obtain ⟨Y3, G3⟩ := yc_text Y2 W3 F3 (fun u hu => ok.2.2.1 u (List.mem_of_mem_take hu))
      refine Or.inr ⟨(A.1, A.2.1.take (A.2.1.length - v), A.2.2), e', ?_, h3, n2, ?_, Y3, zc_Ft F1 (zc_Ft F2 G3), yn_t y1 y2, p2⟩
      · rw [yx_n, m1]
        show (ym_sem (yW B) e).bind _ = _
        rw [m2]
        rfl
      · unfold fC_runDrop
        rw [yc_T Y, cond_true, yc_r1 Y, b1_s, yc_t Y, b1_s, zw_z (yc_txt Y), b1_s, e1, b2, show z_cmp .eq (Int32.ofInt 1) (Int32.ofInt 0) = false from rfl, cond_false, e2, b2, show z_cmp .ne (Int32.ofInt 1) (Int32.ofInt 0) = true from rfl, cond_true, yc_r1 Y2, b1_s, yc_t Y2, b1_s, b1_s, yc_t Y2, b1_s, zw_z (yc_txt Y2), b1_s, yc_i Y2 7 (by decide), b1_s, v2, v1, zw_sub, e3, b2]
    · refine Or.inl ⟨?_, h2, A, n2, ?_, Y2, zc_Ft F1 F2, yn_t y1 y2⟩
      · rw [yx_n, m1]
        show (ym_sem (yW B) e).bind _ = _
        rw [m2]
        rfl
      · unfold fC_runDrop
        rw [yc_T Y, cond_true, yc_r1 Y, b1_s, yc_t Y, b1_s, zw_z (yc_txt Y), b1_s, e1, b2, show z_cmp .eq (Int32.ofInt 1) (Int32.ofInt 0) = false from rfl, cond_false, e2, b2, show z_cmp .ne (Int32.ofInt 0) (Int32.ofInt 0) = false from rfl, cond_false]
        rfl
  · refine Or.inl ⟨?_, h1, A, n1, ?_, Y1, F1, y1⟩
    · rw [yx_n, m1]
      rfl
    · unfold fC_runDrop
      rw [yc_T Y, cond_true, yc_r1 Y, b1_s, yc_t Y, b1_s, zw_z (yc_txt Y), b1_s, e1, b2, show z_cmp .eq (Int32.ofInt 0) (Int32.ofInt 0) = true from rfl, cond_true]
      rfl
theorem yv_trnL {c : Nat} (hT : zv_L A A.2.1) (hc : c ≤ A.2.1.length) : zv_L A (zw_trn A.2.1 c) := zv_trnL hT hc
theorem yc_rotate (hN : 3000 ≤ N) (Y : yc B h A nu) {p : Nat} (h6 : nu 6 = (p : Int)) (hp : p ≤ (yW B).length) : yO B h nu (fC_runRotate N 203 h) (yx 4 (yW B) A p) := by
  have ok := yc_ok Y
  have o2 := ok.2.1
  show yO B h nu (fC_runRotate N 203 h) (yx_n (yW B) p 0 (A.2.1.length : Int) (yf_rot A))
  rcases yc_num (N := N) (by omega) Y h6 hp 0 (A.2.1.length : Int) (by decide) (by omega) with ⟨v, e, m1, h1, n1, e1, Y1, F1, y1, p1, v1⟩ | ⟨m1, h1, n1, e1, Y1, F1, y1⟩
  · obtain ⟨_, _, _, pe, el, _, vl, _⟩ := ym_numb hp m1
    rcases yc_sem (N := N) (by omega) Y1 p1 el with ⟨e', m2, h2, n2, e2, Y2, F2, y2, p2, v2⟩ | ⟨m2, h2, n2, e2, Y2, F2, y2⟩
    · obtain ⟨h3, e3, W3, F3⟩ := zw_turn (N := N) (yc_txt Y2) (by omega) (c := v) (by omega)
      obtain ⟨Y3, G3⟩ := yc_text Y2 W3 F3 (zv_trnL ok.2.2.1 (by omega))
      refine Or.inr ⟨(A.1, zw_trn A.2.1 v, A.2.2), e', ?_, h3, n2, ?_, Y3, zc_Ft F1 (zc_Ft F2 G3), yn_t y1 y2, p2⟩
      · rw [yx_n, m1]
        show (ym_sem (yW B) e).bind _ = _
        rw [m2]
        rfl
      · unfold fC_runRotate
        rw [yc_T Y, cond_true, yc_r1 Y, b1_s, yc_t Y, b1_s, zw_z (yc_txt Y), b1_s, e1, b2, show z_cmp .eq (Int32.ofInt 1) (Int32.ofInt 0) = false from rfl, cond_false, e2, b2, show z_cmp .ne (Int32.ofInt 1) (Int32.ofInt 0) = true from rfl, cond_true, yc_r1 Y2, b1_s, yc_t Y2, b1_s, yc_i Y2 7 (by decide), b1_s, v2, v1, e3, b2]
    · refine Or.inl ⟨?_, h2, A, n2, ?_, Y2, zc_Ft F1 F2, yn_t y1 y2⟩
      · rw [yx_n, m1]
        show (ym_sem (yW B) e).bind _ = _
        rw [m2]
        rfl
      · unfold fC_runRotate
        rw [yc_T Y, cond_true, yc_r1 Y, b1_s, yc_t Y, b1_s, zw_z (yc_txt Y), b1_s, e1, b2, show z_cmp .eq (Int32.ofInt 1) (Int32.ofInt 0) = false from rfl, cond_false, e2, b2, show z_cmp .ne (Int32.ofInt 0) (Int32.ofInt 0) = false from rfl, cond_false]
        rfl
  · refine Or.inl ⟨?_, h1, A, n1, ?_, Y1, F1, y1⟩
    · rw [yx_n, m1]
      rfl
    · unfold fC_runRotate
      rw [yc_T Y, cond_true, yc_r1 Y, b1_s, yc_t Y, b1_s, zw_z (yc_txt Y), b1_s, e1, b2, show z_cmp .eq (Int32.ofInt 0) (Int32.ofInt 0) = true from rfl, cond_true]
      rfl
theorem yc_remove (hN : 3000 ≤ N) (Y : yc B h A nu) {p : Nat} (h6 : nu 6 = (p : Int)) (hp : p ≤ (yW B).length) : yO B h nu (fC_runRemove N 203 h) (yx 9 (yW B) A p) := by
  have ok := yc_ok Y
  have o4 := ok.2.2.2.1
  obtain ⟨S0, H0, _, _⟩ := yc_st Y
  show yO B h nu (fC_runRemove N 203 h) (yx_n (yW B) p 0 ((A.2.2.length : Int) - 1) (yf_rem A))
  rcases yc_num (N := N) (by omega) Y h6 hp 0 ((A.2.2.length : Int) - 1) (by decide) (by omega) with ⟨v, e, m1, h1, n1, e1, Y1, F1, y1, p1, v1⟩ | ⟨m1, h1, n1, e1, Y1, F1, y1⟩
  · obtain ⟨_, _, _, pe, el, _, vl, _⟩ := ym_numb hp m1
    rcases yc_sem (N := N) (by omega) Y1 p1 el with ⟨e', m2, h2, n2, e2, Y2, F2, y2, p2, v2⟩ | ⟨m2, h2, n2, e2, Y2, F2, y2⟩
    · obtain ⟨S2, H2, hS2, cl⟩ := yc_st Y2
      obtain ⟨h3, S3, e3, H3, r3, F3⟩ := zs_take (N := N) (by omega) H2 (k := v) (by omega)
      have em := zv_erase hS2 (show v < A.2.2.length by omega) r3
      obtain ⟨Y3, G3⟩ := cl h3 _ _ _ _ H3 F3 ⟨ok.1, ok.2.1, ok.2.2.1, by rw [List.length_map, List.length_range]; omega, fun w hw => by
        rw [em] at hw
        exact ok.2.2.2.2 w (List.mem_of_mem_eraseIdx hw)⟩
      rw [em] at Y3
      refine Or.inr ⟨(A.1, A.2.1, A.2.2.eraseIdx v), e', ?_, h3, n2, ?_, Y3, zc_Ft F1 (zc_Ft F2 G3), yn_t y1 y2, p2⟩
      · rw [yx_n, m1]
        show (ym_sem (yW B) e).bind _ = _
        rw [m2]
        rfl
      · unfold fC_runRemove
        rw [yc_T Y, cond_true, yc_r1 Y, b1_s, zs_K H0, b1_s, zw_sub, e1, b2, show z_cmp .eq (Int32.ofInt 1) (Int32.ofInt 0) = false from rfl, cond_false, e2, b2, show z_cmp .ne (Int32.ofInt 1) (Int32.ofInt 0) = true from rfl, cond_true, yc_r1 Y2, b1_s, yc_i Y2 7 (by decide), b1_s, v2, v1, e3, b2]
    · refine Or.inl ⟨?_, h2, A, n2, ?_, Y2, zc_Ft F1 F2, yn_t y1 y2⟩
      · rw [yx_n, m1]
        show (ym_sem (yW B) e).bind _ = _
        rw [m2]
        rfl
      · unfold fC_runRemove
        rw [yc_T Y, cond_true, yc_r1 Y, b1_s, zs_K H0, b1_s, zw_sub, e1, b2, show z_cmp .eq (Int32.ofInt 1) (Int32.ofInt 0) = false from rfl, cond_false, e2, b2, show z_cmp .ne (Int32.ofInt 0) (Int32.ofInt 0) = false from rfl, cond_false]
        rfl
  · refine Or.inl ⟨?_, h1, A, n1, ?_, Y1, F1, y1⟩
    · rw [yx_n, m1]
      rfl
    · unfold fC_runRemove
      rw [yc_T Y, cond_true, yc_r1 Y, b1_s, zs_K H0, b1_s, zw_sub, e1, b2, show z_cmp .eq (Int32.ofInt 0) (Int32.ofInt 0) = true from rfl, cond_true]
      rfl
theorem yc_next (hN : 3000 ≤ N) (Y : yc B h A nu) {p : Nat} (h6 : nu 6 = (p : Int)) (hp : p ≤ (yW B).length) : yO B h nu (fC_runNext N 203 h) (yx 7 (yW B) A p) := by
  have ok := yc_ok Y
  have o1 := ok.1
  have o2 := ok.2.1
  show yO B h nu (fC_runNext N 203 h) (yx_n (yW B) p 1 120 (yf_next A))
  rcases yc_num (N := N) (by omega) Y h6 hp 1 120 (by decide) (by decide) with ⟨v, e, m1, h1, n1, e1, Y1, F1, y1, p1, v1⟩ | ⟨m1, h1, n1, e1, Y1, F1, y1⟩
  · obtain ⟨_, _, _, pe, el, vl0, vl, _⟩ := ym_numb hp m1
    obtain ⟨S1, H1, _, _⟩ := yc_st Y1
    have hn := zs_hasNext (N := N) H1 (by omega) (by omega) (v : Int) (by omega)
    rcases yc_end (N := N) (by omega) Y1 p1 el (zs_hn A.1 A.2.1 (v : Int)) with ⟨e', m2, b, h2, n2, e2, Y2, F2, y2, p2, v2⟩ | ⟨m2, h2, n2, e2, Y2, F2, y2⟩
    · have b' := b
      unfold zs_hn at b'
      rw [Bool.and_eq_true, Bool.and_eq_true] at b'
      have l1 := of_decide_eq_true b'.1
      have l2 := of_decide_eq_true b'.2.1
      have x1 := zm_nx (T := A.2.1) (m := v) (g := 97 + A.1 - 1) l2.1 (by omega)
      obtain ⟨S2, H2, hS2, cl⟩ := yc_st Y2
      obtain ⟨h3, e3, W3, F3⟩ := zw_step (N := N) (yc_txt Y2) (by omega) (m := v) (g := 97 + A.1 - 1) (by omega) (by omega) (by omega) (fun u hu => by
        have := ok.2.2.1 u hu
        omega)
      obtain ⟨Y3, G3⟩ := yc_text Y2 W3 F3 (zm_mem (P := fun u => 97 ≤ u ∧ u < 97 + A.1) (fun j hj => by
        rw [x1.2.1] at hj
        rw [x1.2.2.1 j hj]
        have a1 := zm_cget (P := fun u => 97 ≤ u ∧ u < 97 + A.1) ok.2.2.1 l2.1 j
        by_cases e6 : j = zm_nr A.2.1 v (97 + A.1 - 1) - 1
        · rw [if_pos e6]
          rcases x1.2.2.2 with x2 | x2
          · omega
          · rw [← e6] at x2
            omega
        · rw [if_neg e6]
          exact a1))
      refine Or.inr ⟨(A.1, zw_nx A.2.1 v (97 + A.1 - 1), A.2.2), e', ?_, h3, n2, ?_, Y3, zc_Ft F1 (zc_Ft F2 G3), yn_t y1 y2, p2⟩
      · rw [yx_n, m1]
        show (ym_sem (yW B) e).bind _ = _
        rw [m2]
        show (yf_next A v).bind _ = _
        rw [yf_next, if_pos b]
        rfl
      · unfold fC_runNext
        rw [yc_T Y, cond_true, e1, b2, show z_cmp .eq (Int32.ofInt 1) (Int32.ofInt 0) = false from rfl, cond_false, yc_r1 Y1, b1_s, yc_i Y1 7 (by decide), b1_s, v1, hn, b2, e2, b2, show z_cmp .ne (Int32.ofInt 1) (Int32.ofInt 0) = true from rfl, cond_true, yc_r1 Y2, b1_s, yc_t Y2, b1_s, yc_i Y2 7 (by decide), b1_s, v2, v1, b1_s, zs_greatest H2, b2, zw_sub, show ((97 + A.1 : Nat) : Int) - 1 = ((97 + A.1 - 1 : Nat) : Int) by omega, e3, b2]
    · refine Or.inl ⟨?_, h2, A, n2, ?_, Y2, zc_Ft F1 F2, yn_t y1 y2⟩
      · rw [yx_n, m1]
        show (ym_sem (yW B) e).bind _ = _
        rcases m2 with m2 | m2
        · rw [m2]
          rfl
        · cases ym_sem (yW B) e with
          | none => rfl
          | some q =>
            show (yf_next A v).bind _ = _
            rw [yf_next, if_neg (by rw [m2]; decide)]
            rfl
      · unfold fC_runNext
        rw [yc_T Y, cond_true, e1, b2, show z_cmp .eq (Int32.ofInt 1) (Int32.ofInt 0) = false from rfl, cond_false, yc_r1 Y1, b1_s, yc_i Y1 7 (by decide), b1_s, v1, hn, b2, e2, b2, show z_cmp .ne (Int32.ofInt 0) (Int32.ofInt 0) = false from rfl, cond_false]
        rfl
  · refine Or.inl ⟨?_, h1, A, n1, ?_, Y1, F1, y1⟩
    · rw [yx_n, m1]
      rfl
    · unfold fC_runNext
      rw [yc_T Y, cond_true, e1, b2, show z_cmp .eq (Int32.ofInt 0) (Int32.ofInt 0) = true from rfl, cond_true]
      rfl
theorem yc_reverse (hN : 3000 ≤ N) (Y : yc B h A nu) {p : Nat} (h6 : nu 6 = (p : Int)) (hp : p ≤ (yW B).length) : yO B h nu (fC_runReverse N 203 h) (yx 5 (yW B) A p) := by
  have ok := yc_ok Y
  show yO B h nu (fC_runReverse N 203 h) (yx_s (yW B) p (some (A.1, zw_mir A.2.1 0 A.2.1.length, A.2.2)))
  rcases yc_sem (N := N) (by omega) Y h6 hp with ⟨e', m2, h2, n2, e2, Y2, F2, y2, p2, v2⟩ | ⟨m2, h2, n2, e2, Y2, F2, y2⟩
  · obtain ⟨h3, e3, W3, F3⟩ := zw_mirror (N := N) (yc_txt Y2) (by omega) (Nat.zero_le A.2.1.length) (Nat.le_refl _)
    obtain ⟨Y3, G3⟩ := yc_text Y2 W3 F3 (zm_mem (P := fun v => 97 ≤ v ∧ v < 97 + A.1) (fun j hj => by
      rw [zm_mirl] at hj
      rw [zm_rev hj]
      exact zm_get (P := fun v => 97 ≤ v ∧ v < 97 + A.1) ok.2.2.1 (by omega)))
    refine Or.inr ⟨(A.1, zw_mir A.2.1 0 A.2.1.length, A.2.2), e', ?_, h3, n2, ?_, Y3, zc_Ft F2 G3, y2, p2⟩
    · rw [yx_s, m2]
      rfl
    · unfold fC_runReverse
      rw [yc_T Y, cond_true, e2, b2, show z_cmp .ne (Int32.ofInt 1) (Int32.ofInt 0) = true from rfl, cond_true, yc_r1 Y2, b1_s, yc_t Y2, b1_s, b1_s, yc_t Y2, b1_s, zw_z (yc_txt Y2), b1_s, show Int32.ofInt 0 = Int32.ofInt ((0 : Nat) : Int) from rfl, e3, b2]
  · refine Or.inl ⟨?_, h2, A, n2, ?_, Y2, F2, y2⟩
    · rw [yx_s, m2]
      rfl
    · unfold fC_runReverse
      rw [yc_T Y, cond_true, e2, b2, show z_cmp .ne (Int32.ofInt 0) (Int32.ofInt 0) = false from rfl, cond_false]
theorem yc_least (hN : 3000 ≤ N) (Y : yc B h A nu) {p : Nat} (h6 : nu 6 = (p : Int)) (hp : p ≤ (yW B).length) : yO B h nu (fC_runLeast N 203 h) (yx 6 (yW B) A p) := by
  have ok := yc_ok Y
  have o2 := ok.2.1
  show yO B h nu (fC_runLeast N 203 h) (yx_s (yW B) p (yf_least A))
  have s0 : fC_runLeast N 203 h = fC_runLeast_19 N 203 (cond (decide (0 < A.2.1.length)) (Int32.ofInt 1) (Int32.ofInt 0)) 203 h := by
    unfold fC_runLeast
    rw [yc_T Y, cond_true, yc_r1 Y, b1_s, yc_t Y, b1_s, zw_z (yc_txt Y), b1_s, zqo_le _ _ (by omega) (by decide)]
    by_cases e : 0 < A.2.1.length
    · rw [decide_eq_false (show ¬ ((A.2.1.length : Int) ≤ 0) by omega), cond_false, decide_eq_true e, cond_true]
    · rw [decide_eq_true (show (A.2.1.length : Int) ≤ 0 by omega), cond_true, decide_eq_false e, cond_false]
  rw [s0]
  rcases yc_end (N := N) (by omega) Y h6 hp (decide (0 < A.2.1.length)) with ⟨e', m2, b, h2, n2, e2, Y2, F2, y2, p2, v2⟩ | ⟨m2, h2, n2, e2, Y2, F2, y2⟩
  · have b' := of_decide_eq_true b
    have lt := (zm_leastM (l := A.2.1) b').1
    have hl := zw_lturn (N := N) (yc_txt Y2) hN
    rw [zm_lT b'] at hl
    obtain ⟨h3, e3, W3, F3⟩ := zw_turn (N := N) (yc_txt Y2) (by omega) (c := zm_least A.2.1) (by omega)
    obtain ⟨Y3, G3⟩ := yc_text Y2 W3 F3 (zv_trnL ok.2.2.1 (by omega))
    refine Or.inr ⟨(A.1, zw_trn A.2.1 (zm_least A.2.1), A.2.2), e', ?_, h3, n2, ?_, Y3, zc_Ft F2 G3, y2, p2⟩
    · rw [yx_s, m2]
      show (yf_least A).bind _ = _
      rw [yf_least, if_pos b']
      rfl
    · unfold fC_runLeast_19
      rw [e2, b2, show z_cmp .ne (Int32.ofInt 1) (Int32.ofInt 0) = true from rfl, cond_true, yc_r1 Y2, b1_s, yc_t Y2, b1_s, b1_s, yc_t Y2, b1_s, hl, b2, e3, b2]
  · refine Or.inl ⟨?_, h2, A, n2, ?_, Y2, F2, y2⟩
    · rw [yx_s]
      rcases m2 with m2 | m2
      · rw [m2]
        rfl
      · cases ym_sem (yW B) p with
        | none => rfl
        | some q =>
          show (yf_least A).bind _ = _
          rw [yf_least, if_neg (of_decide_eq_false m2)]
          rfl
    · unfold fC_runLeast_19
      rw [e2, b2, show z_cmp .ne (Int32.ofInt 0) (Int32.ofInt 0) = false from rfl, cond_false]
theorem yc_join (hN : 3000 ≤ N) (Y : yc B h A nu) {p : Nat} (h6 : nu 6 = (p : Int)) (hp : p ≤ (yW B).length) : yO B h nu (fC_runJoin N 203 h) (yx 10 (yW B) A p) := by
  have ok := yc_ok Y
  have h8 := ok.2.2.2.1
  obtain ⟨S, H, hS, _⟩ := yc_st Y
  show yO B h nu (fC_runJoin N 203 h) (yx_s (yW B) p (yf_join A))
  have hs := zv_sum hS A.2.2.length 0 (by omega)
  rw [List.drop_zero] at hs
  have s0 : ∀ g : Int32 → zH → Option (Int32 × zH), cond (fT h 203 2) (b1 (fR h 203 2 1) fun x1 => b2 (fS_canJoin N x1 h) g) none = g (cond (decide (0 < A.2.2.length ∧ (A.2.2.map List.length).sum ≤ 120)) (Int32.ofInt 1) (Int32.ofInt 0)) h := fun g => by
    rw [yc_T Y, cond_true, yc_r1 Y, b1_s, zs_canJoin (by omega) H, b2, hs]
  rcases yc_end (N := N) (by omega) Y h6 hp (decide (0 < A.2.2.length ∧ (A.2.2.map List.length).sum ≤ 120)) with ⟨e', m2, b, h2, n2, e2, Y2, F2, y2, p2, v2⟩ | ⟨m2, h2, n2, e2, Y2, F2, y2⟩
  · have b' := of_decide_eq_true b
    obtain ⟨S1, H1, hS1, cl⟩ := yc_st Y2
    have hs1 := zv_sum hS1 A.2.2.length 0 (by omega)
    rw [List.drop_zero] at hs1
    obtain ⟨h3, e3, H3, F3⟩ := zs_join (N := N) (by omega) H1 (by rw [hs1]; exact b'.2)
    have ej : zs_jn S1 A.2.2.length A.2.2.length 0 [] = zv_jn A.2.2 := zs_jnC h8 (fun j hj => zv_mget hS1 hj) _ _ _
    rw [ej] at H3
    obtain ⟨Y3, G3⟩ := cl h3 _ _ _ _ H3 F3 ⟨ok.1, H3.2.2.2.1.2.2.2.1, by
      refine zs_jnL (P := fun v => 97 ≤ v ∧ v < 97 + A.1) (fun j hj v hv => ?_) _ _ _ (fun v hv => by cases hv)
      have : A.2.2.getD j [] ∈ A.2.2 := by
        rw [List.getD_eq_getElem?_getD, List.getElem?_eq_getElem hj]
        exact List.getElem_mem hj
      exact (ok.2.2.2.2 _ this).2.2 v hv, by rw [hS1]; exact h8, by rw [hS1]; exact ok.2.2.2.2⟩
    rw [hS1] at Y3
    refine Or.inr ⟨(A.1, zv_jn A.2.2, A.2.2), e', ?_, h3, n2, ?_, Y3, zc_Ft F2 G3, y2, p2⟩
    · rw [yx_s, m2]
      show (yf_join A).bind _ = _
      rw [yf_join, if_pos b']
      rfl
    · unfold fC_runJoin
      rw [s0, e2, b2, show z_cmp .ne (Int32.ofInt 1) (Int32.ofInt 0) = true from rfl, cond_true, yc_r1 Y2, b1_s, e3, b2]
  · refine Or.inl ⟨?_, h2, A, n2, ?_, Y2, F2, y2⟩
    · rw [yx_s]
      rcases m2 with m2 | m2
      · rw [m2]
        rfl
      · cases ym_sem (yW B) p with
        | none => rfl
        | some q =>
          show (yf_join A).bind _ = _
          rw [yf_join, if_neg (of_decide_eq_false m2)]
          rfl
    · unfold fC_runJoin
      rw [s0, e2, b2, show z_cmp .ne (Int32.ofInt 0) (Int32.ofInt 0) = false from rfl, cond_false]
end YCE
end
section
/-! THE CLASS'S COMMANDS part, keep, text, append. -/
section YCF
variable {N : Nat} {B : yB} {h : zH} {A : zA} {nu : Nat → Int}
theorem yc_part (hN : 3000 ≤ N) (Y : yc B h A nu) {p : Nat} (h6 : nu 6 = (p : Int)) (hp : p ≤ (yW B).length) : yO B h nu (fC_runPart N 203 h) (yx 3 (yW B) A p) := by
  have ok := yc_ok Y
  have o2 := ok.2.1
  show yO B h nu (fC_runPart N 203 h) (yx_part (yW B) A p)
  rcases yc_num (N := N) (by omega) Y h6 hp 0 999 (by decide) (by decide) with ⟨a, e, m1, h1, n1, e1, Y1, F1, y1, p1, v1⟩ | ⟨m1, h1, n1, e1, Y1, F1, y1⟩
  · obtain ⟨_, _, _, pe, el, _, vl, _⟩ := ym_numb hp m1
    rcases yc_num (N := N) (by omega) Y1 p1 el (a : Int) (A.2.1.length : Int) (by omega) (by omega) with ⟨b, f, m2, h2, n2, e2, Y2, F2, y2, p2, v2⟩ | ⟨m2, h2, n2, e2, Y2, F2, y2⟩
    · obtain ⟨_, _, _, pf, fl, ab, bl, _⟩ := ym_numb el m2
      rcases yc_sem (N := N) (by omega) Y2 p2 fl with ⟨g, m3, h3, n3, e3, Y3, F3, y3, p3, v3⟩ | ⟨m3, h3, n3, e3, Y3, F3, y3⟩
      · obtain ⟨h4, e4, W4, F4⟩ := zw_cut (N := N) (yc_txt Y3) (by omega) (show a ≤ b by omega) (by omega)
        rw [zm_cut (by omega) (by omega)] at W4
        obtain ⟨Y4, G4⟩ := yc_text Y3 W4 F4 (fun u hu => ok.2.2.1 u (List.mem_of_mem_drop (List.mem_of_mem_take hu)))
        refine Or.inr ⟨(A.1, zw_p A.2.1 a b, A.2.2), g, ?_, h4, n3, ?_, Y4, zc_Ft F1 (zc_Ft F2 (zc_Ft F3 G4)), yn_t y1 (yn_t y2 y3), p3⟩
        · rw [yx_part, m1]
          show (ym_num (yW B) e (a : Int) (A.2.1.length : Int)).bind _ = _
          rw [m2]
          show (ym_sem (yW B) f).bind _ = _
          rw [m3]
          rfl
        · unfold fC_runPart
          rw [yc_T Y, cond_true, e1, b2, show z_cmp .ne (Int32.ofInt 1) (Int32.ofInt 0) = true from rfl, cond_true, yc_i Y1 7 (by decide), b1_s, v1, yc_r1 Y1, b1_s, yc_t Y1, b1_s, zw_z (yc_txt Y1), b1_s, e2, b2, show z_cmp .eq (Int32.ofInt 1) (Int32.ofInt 0) = false from rfl, cond_false, e3, b2, show z_cmp .ne (Int32.ofInt 1) (Int32.ofInt 0) = true from rfl, cond_true, yc_r1 Y3, b1_s, yc_t Y3, b1_s, yc_i Y3 7 (by decide), b1_s, v3, v2, e4, b2]
      · refine Or.inl ⟨?_, h3, A, n3, ?_, Y3, zc_Ft F1 (zc_Ft F2 F3), yn_t y1 (yn_t y2 y3)⟩
        · rw [yx_part, m1]
          show (ym_num (yW B) e (a : Int) (A.2.1.length : Int)).bind _ = _
          rw [m2]
          show (ym_sem (yW B) f).bind _ = _
          rw [m3]
          rfl
        · unfold fC_runPart
          rw [yc_T Y, cond_true, e1, b2, show z_cmp .ne (Int32.ofInt 1) (Int32.ofInt 0) = true from rfl, cond_true, yc_i Y1 7 (by decide), b1_s, v1, yc_r1 Y1, b1_s, yc_t Y1, b1_s, zw_z (yc_txt Y1), b1_s, e2, b2, show z_cmp .eq (Int32.ofInt 1) (Int32.ofInt 0) = false from rfl, cond_false, e3, b2, show z_cmp .ne (Int32.ofInt 0) (Int32.ofInt 0) = false from rfl, cond_false]
          rfl
    · refine Or.inl ⟨?_, h2, A, n2, ?_, Y2, zc_Ft F1 F2, yn_t y1 y2⟩
      · rw [yx_part, m1]
        show (ym_num (yW B) e (a : Int) (A.2.1.length : Int)).bind _ = _
        rw [m2]
        rfl
      · unfold fC_runPart
        rw [yc_T Y, cond_true, e1, b2, show z_cmp .ne (Int32.ofInt 1) (Int32.ofInt 0) = true from rfl, cond_true, yc_i Y1 7 (by decide), b1_s, v1, yc_r1 Y1, b1_s, yc_t Y1, b1_s, zw_z (yc_txt Y1), b1_s, e2, b2, show z_cmp .eq (Int32.ofInt 0) (Int32.ofInt 0) = true from rfl, cond_true]
        rfl
  · refine Or.inl ⟨?_, h1, A, n1, ?_, Y1, F1, y1⟩
    · rw [yx_part, m1]
      rfl
    · unfold fC_runPart
      rw [yc_T Y, cond_true, e1, b2, show z_cmp .ne (Int32.ofInt 0) (Int32.ofInt 0) = false from rfl, cond_false]
/-- a part of the text kept, behind the semicolon's reading -/
theorem yc_67 (hN : 3000 ≤ N) (Y : yc B h A nu) {q e : Nat} (h4 : nu 4 = (q : Int)) (hq : q ≤ 7) (h6 : nu 6 = (e : Int)) (a c : Nat) (hc : a + c ≤ A.2.1.length) : yO B h nu (fC_runKeep_67 N 203 (Int32.ofInt (a : Int)) (Int32.ofInt ((a + c : Nat) : Int)) h) (if q = 5 ∧ 1 ≤ c ∧ c ≤ 40 ∧ A.2.2.length < 8 then some ((A.1, A.2.1, A.2.2 ++ [(A.2.1.drop a).take c]), e) else none) := by
  have ok := yc_ok Y
  have o2 := ok.2.1
  obtain ⟨S, H, hS, cl⟩ := yc_st Y
  unfold fC_runKeep_67
  rw [yc_i Y 4 (by decide), b1_s, h4, zqo_eq _ _ (by omega) (by decide)]
  by_cases e1 : q = 5
  · rw [decide_eq_true (by omega), cond_true, yc_r1 Y, b1_s, zw_sub, show (((a + c : Nat) : Int) - (a : Int)) = (c : Int) by omega, zs_canKeep H _ (by omega), b2]
    by_cases e2 : 1 ≤ c ∧ c ≤ 40 ∧ A.2.2.length < 8
    · obtain ⟨h3, e3, H3, F3⟩ := zs_keepP (N := N) H e2.2.2 H.2.2.2.1 (fun i hi => by unfold zw_d; omega) (by omega) a c hc (by omega)
      obtain ⟨Y3, G3⟩ := cl h3 _ _ _ _ H3 F3 ⟨ok.1, ok.2.1, ok.2.2.1, by rw [zv_snoc hS, List.length_append]; show A.2.2.length + 1 ≤ 8; omega, fun w hw => by
        rw [zv_snoc hS, List.mem_append, List.mem_singleton] at hw
        rcases hw with hw | hw
        · exact ok.2.2.2.2 w hw
        · rw [hw]
          have hl : ((A.2.1.drop a).take c).length = c := by rw [List.length_take, List.length_drop]; omega
          exact ⟨by omega, by omega, fun v hv => ok.2.2.1 v (List.mem_of_mem_drop (List.mem_of_mem_take hv))⟩⟩
      rw [zv_snoc hS] at Y3
      refine Or.inr ⟨_, e, if_pos ⟨e1, e2⟩, h3, nu, ?_, Y3, G3, yn_r nu, h6⟩
      rw [decide_eq_true (by omega), cond_true, show z_cmp .ne (Int32.ofInt 1) (Int32.ofInt 0) = true from rfl, cond_true, yc_r1 Y, b1_s, b1_s, yc_t Y, b1_s, e3, b2]
    · obtain ⟨h3, n3, e3, Y3, F3, r3⟩ := yc_fail (N := N) Y 3
      refine Or.inl ⟨if_neg (fun x => e2 x.2), h3, A, n3, ?_, Y3, F3, fun k hk => r3 k (by omega) (by omega)⟩
      rw [decide_eq_false (by omega), cond_false, show z_cmp .ne (Int32.ofInt 0) (Int32.ofInt 0) = false from rfl, cond_false, e3, b2]
      rfl
  · obtain ⟨h3, n3, e3, Y3, F3, r3⟩ := yc_fail (N := N) Y 1
    refine Or.inl ⟨if_neg (fun x => e1 x.1), h3, A, n3, ?_, Y3, F3, fun k hk => r3 k (by omega) (by omega)⟩
    rw [decide_eq_false (by omega), cond_false, e3, b2]
    rfl
theorem yO_t {h0 : zH} {n0 : Nat → Int} {r : Option (Int32 × zH)} {x : Option (zA × Nat)} (F : zc_F h0 h) (y : yn n0 nu) (o : yO B h nu r x) : yO B h0 n0 r x := by
  rcases o with ⟨a, h', A', n', b, c, d, e⟩ | ⟨A', p', a, h', n', b, c, d, e, g⟩
  · exact Or.inl ⟨a, h', A', n', b, c, zc_Ft F d, yn_t y e⟩
  · exact Or.inr ⟨A', p', a, h', n', b, c, zc_Ft F d, yn_t y e, g⟩
theorem yw_bF {T : List Nat} {v : Nat} : (zw_bF T (v : Int) = -1 ∧ (zw_fs T).length ≤ v) ∨ (∃ b : Nat, zw_bF T (v : Int) = (b : Int) ∧ b < T.length ∧ v < (zw_fs T).length) := by
  have bb := zw_bFb T (v : Int)
  by_cases e : v < (zw_fs T).length
  · refine Or.inr ?_
    have : zw_bF T (v : Int) = (((zw_fs T)[v]'e).1 : Int) := by
      unfold zw_bF
      rw [if_neg (by omega), show ((v : Nat) : Int).toNat = v by omega, List.getElem?_eq_getElem e]
      rfl
    exact ⟨((zw_fs T)[v]'e).1, this, by omega, e⟩
  · refine Or.inl ⟨?_, by omega⟩
    unfold zw_bF
    rw [if_neg (by omega), show ((v : Nat) : Int).toNat = v by omega, List.getElem?_eq_none (by omega)]
    rfl
theorem yc_keep (hN : 3000 ≤ N) (Y : yc B h A nu) {p : Nat} (h6 : nu 6 = (p : Int)) (hp : p ≤ (yW B).length) : yO B h nu (fC_runKeep N 203 h) (yx 8 (yW B) A p) := by
  have ok := yc_ok Y
  have o2 := ok.2.1
  have qb := yt_qb (yW B) (yt_s (yW B) p)
  have sb := yt_sb hp
  have eb := yt_eb sb.2
  show yO B h nu (fC_runKeep N 203 h) (yx_keep (yW B) A p)
  obtain ⟨h1, n1, e1, Y1, F1, K1⟩ := yc_tok (N := N) (by omega) Y h6 hp
  have yn1 : yn nu n1 := fun k hk => K1.2.2.2.2.2 k (by omega)
  have s0 : ∀ g : Int32 → zH → Option (Int32 × zH), cond (fT h 203 2) (b1 (fR h 203 2 1) fun x1 => b1 (fR h x1 3 1) fun x2 => b1 (fI h x2 4 1) fun x3 => b2 (fC_readToken N 203 h) fun _ h5 => g x3 h5) none = g (Int32.ofInt (A.2.1.length : Int)) h1 := fun g => by
    rw [yc_T Y, cond_true, yc_r1 Y, b1_s, yc_t Y, b1_s, zw_z (yc_txt Y), b1_s, e1, b2]
  by_cases e : yt_q (yW B) (yt_s (yW B) p) = 2
  · have k7 := K1.2.2.2.1 e
    have v9 := yt_v999 e
    rw [yx_keep, if_pos e]
    unfold fC_runKeep
    rw [s0 (fun x3 h5 => b1 (fI h5 203 2 4) fun x6 => cond (z_cmp .ne x6 (Int32.ofInt 2)) (fC_runKeep_67 N 203 (Int32.ofInt 0) x3 h5) _), yc_i Y1 4 (by decide), b1_s, K1.1, zqo_ne _ _ (by omega) (by decide), decide_eq_true (by omega), Bool.not_true, cond_false, yc_r1 Y1, b1_s, yc_t Y1, b1_s, yc_i Y1 7 (by decide), b1_s, k7, zw_begin (yc_txt Y1) (by omega) _ (by omega), b2]
    rcases yw_bF (T := A.2.1) (v := yt_v (yW B) (yt_s (yW B) p)) with ⟨f1, f2⟩ | ⟨b, f1, f2, f3⟩
    · obtain ⟨h2, n2, e2, Y2, F2, r2⟩ := yc_fail (N := N) Y1 2
      refine Or.inl ⟨?_, h2, A, n2, ?_, Y2, zc_Ft F1 F2, yn_t yn1 (fun k hk => r2 k (by omega) (by omega))⟩
      · rw [yx_n, ym_num, if_neg (by omega)]
        rfl
      · rw [f1, show z_cmp .ne (Int32.ofInt (-1)) (Int32.ofInt (-1)) = false from rfl, cond_false, e2, b2]
        rfl
    · have le := zw_lEb f2
      obtain ⟨h2, n2, e2, Y2, F2, K2⟩ := yc_tok (N := N) (by omega) Y1 (p := yt_e (yW B) (yt_s (yW B) p)) K1.2.2.1 eb.2.1
      rw [f1, zqo_ne _ _ (by omega) (by decide), decide_eq_false (by omega), Bool.not_false, cond_true, yc_r1 Y1, b1_s, yc_t Y1, b1_s, zw_lyn (yc_txt Y1) (by omega) f2, b2, e2, b2]
      have o := yc_67 hN Y2 (q := yt_q (yW B) (yt_s (yW B) (yt_e (yW B) (yt_s (yW B) p)))) K2.1 (yt_qb _ _) K2.2.2.1 b (zw_lE A.2.1 b - b) (by omega)
      rw [show b + (zw_lE A.2.1 b - b) = zw_lE A.2.1 b by omega] at o
      refine yO_t F1 yn1 (yO_t F2 (fun k hk => K2.2.2.2.2.2 k (by omega)) ?_)
      have ex : yx_n (yW B) p 0 (((zw_fs A.2.1).length : Int) - 1) (yf_fac A) = (if yt_q (yW B) (yt_s (yW B) (yt_e (yW B) (yt_s (yW B) p))) = 5 ∧ 1 ≤ zw_lE A.2.1 b - b ∧ zw_lE A.2.1 b - b ≤ 40 ∧ A.2.2.length < 8 then some ((A.1, A.2.1, A.2.2 ++ [(A.2.1.drop b).take (zw_lE A.2.1 b - b)]), yt_e (yW B) (yt_s (yW B) (yt_e (yW B) (yt_s (yW B) p)))) else none) := by
        rw [yx_n, ym_num, if_pos ⟨e, by omega, by omega⟩]
        show (ym_sem (yW B) (yt_e (yW B) (yt_s (yW B) p))).bind _ = _
        by_cases c1 : yt_q (yW B) (yt_s (yW B) (yt_e (yW B) (yt_s (yW B) p))) = 5
        · rw [ym_sem, if_pos c1]
          show (yf_fac A (yt_v (yW B) (yt_s (yW B) p))).bind _ = _
          unfold yf_fac
          rw [f1, show ((b : Nat) : Int).toNat = b by omega]
          by_cases c2 : zw_lE A.2.1 b - b ≤ 40 ∧ A.2.2.length < 8
          · rw [if_pos c2, if_pos ⟨c1, by omega, c2⟩]
            rfl
          · rw [if_neg c2, if_neg (fun x => c2 x.2.2)]
            rfl
        · rw [ym_sem, if_neg c1, if_neg (fun x => c1 x.1)]
          rfl
      rw [ex]
      exact o
  · rw [yx_keep, if_neg e]
    unfold fC_runKeep
    rw [s0 (fun x3 h5 => b1 (fI h5 203 2 4) fun x6 => cond (z_cmp .ne x6 (Int32.ofInt 2)) (fC_runKeep_67 N 203 (Int32.ofInt 0) x3 h5) _), yc_i Y1 4 (by decide), b1_s, K1.1, zqo_ne _ _ (by omega) (by decide), decide_eq_false (by omega), Bool.not_false, cond_true]
    have o := yc_67 hN Y1 (q := yt_q (yW B) (yt_s (yW B) p)) K1.1 (yt_qb _ _) K1.2.2.1 0 A.2.1.length (by omega)
    rw [Nat.zero_add, List.drop_zero, List.take_of_length_le (Nat.le_refl _)] at o
    refine yO_t F1 yn1 ?_
    have ex : yx_s (yW B) p (yf_keep A) = (if yt_q (yW B) (yt_s (yW B) p) = 5 ∧ 1 ≤ A.2.1.length ∧ A.2.1.length ≤ 40 ∧ A.2.2.length < 8 then some ((A.1, A.2.1, A.2.2 ++ [A.2.1]), yt_e (yW B) (yt_s (yW B) p)) else none) := by
      by_cases c1 : yt_q (yW B) (yt_s (yW B) p) = 5
      · rw [yx_s, ym_sem, if_pos c1]
        show (yf_keep A).bind _ = _
        unfold yf_keep
        by_cases c2 : 1 ≤ A.2.1.length ∧ A.2.1.length ≤ 40 ∧ A.2.2.length < 8
        · rw [if_pos c2, if_pos ⟨c1, c2⟩]
          rfl
        · rw [if_neg c2, if_neg (fun x => c2 x.2)]
          rfl
      · rw [yx_s, ym_sem, if_neg c1, if_neg (fun x => c1 x.1)]
        rfl
    rw [ex]
    exact o
/-- the letters of a word looked at -/
theorem yc_23 {x1 : Int32} {a b : Nat} (hb : b ≤ (yW B).length) (Y : yc B h A nu) (hk : ∀ j, a ≤ j → j < b → yt_k ((yW B).getD j 0) = 1) : ∀ c f i, a ≤ i → i + c = b → c < f → ((∀ j, i ≤ j → j < b → (yW B).getD j 0 < 97 + A.1) ∧ ∃ g, fC_runText_23 N f 203 x1 (Int32.ofInt (a : Int)) (Int32.ofInt (b : Int)) (Int32.ofInt (i : Int)) h = fC_runText_23 N (g + 1) 203 x1 (Int32.ofInt (a : Int)) (Int32.ofInt (b : Int)) (Int32.ofInt (b : Int)) h) ∨ ((∃ j, i ≤ j ∧ j < b ∧ ¬ (yW B).getD j 0 < 97 + A.1) ∧ ∃ h' nu', fC_runText_23 N f 203 x1 (Int32.ofInt (a : Int)) (Int32.ofInt (b : Int)) (Int32.ofInt (i : Int)) h = some (Int32.ofInt 0, h') ∧ yc B h' A nu' ∧ zc_F h h' ∧ yn nu nu') := by
  have W := yc_W Y
  have l6 := W.2.2.2.1
  have ok := yc_ok Y
  have o1 := ok.1
  obtain ⟨S, H, _, _⟩ := yc_st Y
  intro c
  induction c with
  | zero =>
    intro f i h1 h2 h3
    obtain ⟨g, rfl⟩ : ∃ g, f = g + 1 := ⟨f - 1, by omega⟩
    have : i = b := by omega
    subst this
    exact Or.inl ⟨fun j h4 h5 => absurd h5 (by omega), g, rfl⟩
  | succ c ih =>
    intro f i h1 h2 h3
    obtain ⟨g, rfl⟩ : ∃ g, f = g + 1 := ⟨f - 1, by omega⟩
    have k1 := yt_k1 (hk i h1 (by omega))
    have s0 : ∀ (u v : Option (Int32 × zH)) (w : Int32 → zH → Option (Int32 × zH)), cond (z_cmp .ge (Int32.ofInt (i : Int)) (Int32.ofInt (b : Int))) u (b1 (fR h 203 2 1) fun x8 => b1 (fR h 203 2 0) fun x9 => b2 (fW_at N x9 (Int32.ofInt (i : Int)) h) fun x10 h11 => b2 (fS_isLetter N x8 x10 h11) w) = w (cond (decide ((yW B).getD i 0 < 97 + A.1)) (Int32.ofInt 1) (Int32.ofInt 0)) h := fun u v w => by
      rw [zqo_ge _ _ (by omega) (by omega), decide_eq_false (by omega), cond_false, yc_r1 Y, b1_s, yc_r0 Y, b1_s, zw_at W _ (by omega), b2, zw_gi (by omega), show ((i : Nat) : Int).toNat = i by omega, zs_isLetter H _ (by omega), b2]
      by_cases e : (yW B).getD i 0 < 97 + A.1
      · rw [decide_eq_true e, decide_eq_true (by omega)]
      · rw [decide_eq_false e, decide_eq_false (by omega)]
    by_cases e : (yW B).getD i 0 < 97 + A.1
    · have s1 : fC_runText_23 N (g + 1) 203 x1 (Int32.ofInt (a : Int)) (Int32.ofInt (b : Int)) (Int32.ofInt (i : Int)) h = fC_runText_23 N g 203 x1 (Int32.ofInt (a : Int)) (Int32.ofInt (b : Int)) (Int32.ofInt ((i + 1 : Nat) : Int)) h := by
        rw [fC_runText_23, s0 _ none, decide_eq_true e, cond_true, show z_cmp .ne (Int32.ofInt 1) (Int32.ofInt 0) = true from rfl, cond_true, zh_inc]
      rw [s1]
      rcases ih g (i + 1) (by omega) (by omega) (by omega) with ⟨q, r⟩ | ⟨⟨j, j1, j2, j3⟩, r⟩
      · refine Or.inl ⟨fun j h4 h5 => ?_, r⟩
        by_cases e2 : j = i
        · rw [e2]
          exact e
        · exact q j (by omega) h5
      · exact Or.inr ⟨⟨j, by omega, j2, j3⟩, r⟩
    · obtain ⟨h2, n2, e2, Y2, F2, r2⟩ := yc_fail (N := N) Y 2
      refine Or.inr ⟨⟨i, Nat.le_refl i, by omega, e⟩, h2, n2, ?_, Y2, F2, fun k hk => r2 k (by omega) (by omega)⟩
      rw [fC_runText_23, s0 _ none, decide_eq_false e, cond_false, show z_cmp .ne (Int32.ofInt 0) (Int32.ofInt 0) = false from rfl, cond_false, e2, b2]
      rfl
theorem yt_pm {s : List Nat} {a b : Nat} (hb : b ≤ s.length) {P : Nat → Prop} : (∀ v ∈ zw_p s a b, P v) ↔ ∀ j, a ≤ j → j < b → P (s.getD j 0) := by
  have hl := zw_pl s a b hb
  constructor
  · intro h j h1 h2
    have := zm_get (P := P) h (j := j - a) (by omega)
    rw [zw_pd (by omega), show a + (j - a) = j by omega] at this
    exact this
  · intro h
    refine zm_mem (fun j hj => ?_)
    rw [hl] at hj
    rw [zw_pd hj]
    exact h _ (by omega) (by omega)
/-- the word's end -/
theorem yc_97 (hN : 3000 ≤ N) (Y : yc B h A nu) {a b : Nat} (h6 : nu 6 = (b : Int)) (hab : a ≤ b) (hb : b ≤ (yW B).length) (hw : ∀ v ∈ zw_p (yW B) a b, 97 ≤ v ∧ v < 97 + A.1) {T0 : List Nat} (ht : A.2.1.take T0.length = T0) : yO B h nu (fC_runText_97 N 203 (Int32.ofInt (a : Int)) (Int32.ofInt (b : Int)) (Int32.ofInt (T0.length : Int)) (cond (decide (T0.length + (zw_p (yW B) a b).length ≤ 120)) (Int32.ofInt 1) (Int32.ofInt 0)) 203 h) ((ym_sem (yW B) b).bind fun e => if T0.length + (zw_p (yW B) a b).length ≤ 120 then some ((A.1, T0 ++ zw_p (yW B) a b, A.2.2), e) else none) := by
  have ok := yc_ok Y
  have o2 := ok.2.1
  have hl := zw_pl (yW B) a b hb
  have l6 := (yc_W Y).2.2.2.1
  have tl : T0.length ≤ A.2.1.length := by
    have := congrArg List.length ht
    rw [List.length_take] at this
    omega
  unfold fC_runText_97
  rcases yc_end (N := N) (by omega) Y h6 hb (decide (T0.length + (zw_p (yW B) a b).length ≤ 120)) with ⟨e', m2, b0, h2, n2, e2, Y2, F2, y2, p2, v2⟩ | ⟨m2, h2, n2, e2, Y2, F2, y2⟩
  · have b' := of_decide_eq_true b0
    obtain ⟨h3, e3, W3, F3⟩ := zw_shorten (N := N) (yc_txt Y2) (T0.length : Int) (by omega)
    rw [if_pos (by omega), show ((T0.length : Nat) : Int).toNat = T0.length by omega, ht] at W3
    obtain ⟨Y3, G3⟩ := yc_text Y2 W3 F3 (fun u hu => by
      rw [← ht] at hu
      exact ok.2.2.1 u (List.mem_of_mem_take hu))
    obtain ⟨h4, e4, W4, F4⟩ := zw_addPart (N := N) (show zw_d 204 (206 + 1) by unfold zw_d; omega) W3 (yc_W Y3) a (b - a) (by omega) (by omega) (by omega)
    rw [show a + (b - a) = b by omega] at e4
    obtain ⟨Y4, G4⟩ := yc_text Y3 W4 F4 (fun u hu => by
      rw [List.mem_append] at hu
      rcases hu with hu | hu
      · rw [← ht] at hu
        exact ok.2.2.1 u (List.mem_of_mem_take hu)
      · exact hw u hu)
    refine Or.inr ⟨(A.1, T0 ++ zw_p (yW B) a b, A.2.2), e', ?_, h4, n2, ?_, Y4, zc_Ft F2 (zc_Ft G3 G4), y2, p2⟩
    · rw [m2]
      show (if _ then _ else _) = _
      rw [if_pos b']
    · rw [e2, b2, show z_cmp .ne (Int32.ofInt 1) (Int32.ofInt 0) = true from rfl, cond_true, yc_r1 Y2, b1_s, yc_t Y2, b1_s, e3, b2, yc_r1 Y3, b1_s, yc_t Y3, b1_s, yc_r0 Y3, b1_s, e4, b2]
  · refine Or.inl ⟨?_, h2, A, n2, ?_, Y2, F2, y2⟩
    · rcases m2 with m2 | m2
      · rw [m2]
        rfl
      · cases ym_sem (yW B) b with
        | none => rfl
        | some q =>
          show (if _ then _ else _) = _
          rw [if_neg (of_decide_eq_false m2)]
    · rw [e2, b2, show z_cmp .ne (Int32.ofInt 0) (Int32.ofInt 0) = false from rfl, cond_false]
theorem yc_word (hN : 3000 ≤ N) (Y : yc B h A nu) {p : Nat} (h6 : nu 6 = (p : Int)) (hp : p ≤ (yW B).length) (x1 : Int) {T0 : List Nat} (ht : A.2.1.take T0.length = T0) (hx : (x1 = 0 ∧ T0 = []) ∨ (x1 = 1 ∧ T0 = A.2.1)) : yO B h nu (fC_runText N 203 (Int32.ofInt x1) h) (yx_text T0 (yW B) A p) := by
  have ok := yc_ok Y
  have o2 := ok.2.1
  have l6 := (yc_W Y).2.2.2.1
  have sb := yt_sb hp
  have eb := yt_eb sb.2
  unfold fC_runText
  rcases yc_expect (N := N) (by omega) Y h6 hp 1 (by decide) with ⟨q1, h1, n1, e1, Y1, F1, K1⟩ | ⟨q1, h1, n1, e1, Y1, F1, y1⟩
  · have q1' : yt_q (yW B) (yt_s (yW B) p) = 1 := by omega
    have wk := (yt_q1 q1').2
    have yn1 : yn nu n1 := fun k hk => K1.2.2.2.2.2 k (by omega)
    rw [yc_T Y, cond_true, e1, b2, show z_cmp .ne (Int32.ofInt 1) (Int32.ofInt 0) = true from rfl, cond_true, yc_i Y1 5 (by decide), b1_s, K1.2.1, yc_i Y1 6 (by decide), b1_s, K1.2.2.1]
    rcases yc_23 (N := N) (x1 := Int32.ofInt x1) eb.2.1 Y1 wk (yt_e (yW B) (yt_s (yW B) p) - yt_s (yW B) p) N (yt_s (yW B) p) (Nat.le_refl _) (by omega) (by omega) with ⟨r1, g, r2⟩ | ⟨⟨j, j1, j2, j3⟩, h2, n2, e2, Y2, F2, y2⟩
    · have hw : ∀ v ∈ zw_p (yW B) (yt_s (yW B) p) (yt_e (yW B) (yt_s (yW B) p)), 97 ≤ v ∧ v < 97 + A.1 := (yt_pm eb.2.1).mpr (fun j a b => ⟨(yt_k1 (wk j a b)).1, r1 j a b⟩)
      have o := yc_97 hN Y1 K1.2.2.1 eb.1 eb.2.1 hw ht
      have hl := zw_pl (yW B) (yt_s (yW B) p) (yt_e (yW B) (yt_s (yW B) p)) eb.2.1
      have s2 : fC_runText_23 N (g + 1) 203 (Int32.ofInt x1) (Int32.ofInt (yt_s (yW B) p : Int)) (Int32.ofInt (yt_e (yW B) (yt_s (yW B) p) : Int)) (Int32.ofInt (yt_e (yW B) (yt_s (yW B) p) : Int)) h1 = fC_runText_97 N 203 (Int32.ofInt (yt_s (yW B) p : Int)) (Int32.ofInt (yt_e (yW B) (yt_s (yW B) p) : Int)) (Int32.ofInt (T0.length : Int)) (cond (decide (T0.length + (zw_p (yW B) (yt_s (yW B) p) (yt_e (yW B) (yt_s (yW B) p))).length ≤ 120)) (Int32.ofInt 1) (Int32.ofInt 0)) 203 h1 := by
        have s78 : fC_runText_78 N 203 (Int32.ofInt (yt_s (yW B) p : Int)) (Int32.ofInt (yt_e (yW B) (yt_s (yW B) p) : Int)) (Int32.ofInt (T0.length : Int)) h1 = fC_runText_97 N 203 (Int32.ofInt (yt_s (yW B) p : Int)) (Int32.ofInt (yt_e (yW B) (yt_s (yW B) p) : Int)) (Int32.ofInt (T0.length : Int)) (cond (decide (T0.length + (zw_p (yW B) (yt_s (yW B) p) (yt_e (yW B) (yt_s (yW B) p))).length ≤ 120)) (Int32.ofInt 1) (Int32.ofInt 0)) 203 h1 := by
          have tl : T0.length ≤ 120 := by
            have := congrArg List.length ht
            rw [List.length_take] at this
            omega
          unfold fC_runText_78
          rw [zw_add, zw_sub, zqo_gt _ _ (by omega) (by decide)]
          by_cases e : T0.length + (zw_p (yW B) (yt_s (yW B) p) (yt_e (yW B) (yt_s (yW B) p))).length ≤ 120
          · rw [decide_eq_true e, decide_eq_false (by omega), cond_false, cond_true]
          · rw [decide_eq_false e, decide_eq_true (by omega), cond_true, cond_false]
        rw [fC_runText_23, zqo_ge _ _ (by omega) (by omega), decide_eq_true (by omega), cond_true]
        rcases hx with ⟨x0, t0⟩ | ⟨x0, t0⟩
        · rw [x0, show z_cmp .eq (Int32.ofInt 0) (Int32.ofInt 0) = true from rfl, cond_true]
          rw [t0] at s78 ⊢
          exact s78
        · rw [x0, show z_cmp .eq (Int32.ofInt 1) (Int32.ofInt 0) = false from rfl, cond_false, yc_r1 Y1, b1_s, yc_t Y1, b1_s, zw_z (yc_txt Y1), b1_s]
          rw [t0] at s78 ⊢
          exact s78
      rw [r2, s2]
      refine yO_t F1 yn1 ?_
      rw [yx_text, ym_word, if_pos ⟨q1', fun v hv => (hw v hv).2⟩]
      exact o
    · refine Or.inl ⟨?_, h2, A, n2, e2, Y2, zc_Ft F1 F2, yn_t yn1 y2⟩
      rw [yx_text, ym_word, if_neg (fun x => j3 ((yt_pm (P := fun v => v < 97 + A.1) eb.2.1).mp x.2 j j1 j2))]
      rfl
  · refine Or.inl ⟨?_, h1, A, n1, ?_, Y1, F1, y1⟩
    · rw [yx_text, ym_word, if_neg (fun x => q1 (by omega))]
      rfl
    · rw [yc_T Y, cond_true, e1, b2, show z_cmp .ne (Int32.ofInt 0) (Int32.ofInt 0) = false from rfl, cond_false]
end YCF
end
section
/-! THE STRINGS and the commands' words. -/
/-- a string's bytes -/
def yS (q : Nat) (b : List Nat) : Prop := ∀ (N : Nat) (h : zH), fJ_length N q h = some (Int32.ofInt (b.length : Int), h) ∧ ∀ i, i < b.length → fJ_charAt N q (Int32.ofInt (i : Int)) h = some (Int32.ofInt (b.getD i 0 : Int), h)
def yt_words : List (List Nat) := [[116, 101, 120, 116], [97, 112, 112, 101, 110, 100], [100, 114, 111, 112], [112, 97, 114, 116], [114, 111, 116, 97, 116, 101], [114, 101, 118, 101, 114, 115, 101], [108, 101, 97, 115, 116], [110, 101, 120, 116], [107, 101, 101, 112], [114, 101, 109, 111, 118, 101], [106, 111, 105, 110], [114, 101, 112, 101, 97, 116]]
def yt_letters : List Nat := [108, 101, 116, 116, 101, 114, 115]
def yt_ix (w : List Nat) : List (List Nat) → Nat → Nat
  | [], k => k
  | u :: l, k => if w = u then k else yt_ix w l (k + 1)
/-- a command's number, 12 if there is none -/
def yt_cmd (w : List Nat) : Nat := yt_ix w yt_words 0
theorem yt_ixb (w : List Nat) : ∀ l k, k ≤ yt_ix w l k ∧ yt_ix w l k ≤ k + l.length := by
  intro l
  induction l with
  | nil => intro k; exact ⟨Nat.le_refl k, Nat.le_refl k⟩
  | cons u l ih =>
    intro k
    rw [yt_ix, List.length_cons]
    split
    · omega
    · have := ih (k + 1)
      omega
theorem yt_cmdb (w : List Nat) : yt_cmd w ≤ 12 := (yt_ixb w yt_words 0).2
theorem yS_21 : yS 1000021 [116, 101, 120, 116] := by
  intro N h
  refine ⟨rfl, fun i hi => ?_⟩
  change i < 4 at hi
  have c : i = 0 ∨ i = 1 ∨ i = 2 ∨ i = 3 := by omega
  rcases c with e | e | e | e <;> subst e <;> rfl
theorem yS_23 : yS 1000023 [97, 112, 112, 101, 110, 100] := by
  intro N h
  refine ⟨rfl, fun i hi => ?_⟩
  change i < 6 at hi
  have c : i = 0 ∨ i = 1 ∨ i = 2 ∨ i = 3 ∨ i = 4 ∨ i = 5 := by omega
  rcases c with e | e | e | e | e | e <;> subst e <;> rfl
theorem yS_25 : yS 1000025 [100, 114, 111, 112] := by
  intro N h
  refine ⟨rfl, fun i hi => ?_⟩
  change i < 4 at hi
  have c : i = 0 ∨ i = 1 ∨ i = 2 ∨ i = 3 := by omega
  rcases c with e | e | e | e <;> subst e <;> rfl
theorem yS_27 : yS 1000027 [112, 97, 114, 116] := by
  intro N h
  refine ⟨rfl, fun i hi => ?_⟩
  change i < 4 at hi
  have c : i = 0 ∨ i = 1 ∨ i = 2 ∨ i = 3 := by omega
  rcases c with e | e | e | e <;> subst e <;> rfl
theorem yS_29 : yS 1000029 [114, 111, 116, 97, 116, 101] := by
  intro N h
  refine ⟨rfl, fun i hi => ?_⟩
  change i < 6 at hi
  have c : i = 0 ∨ i = 1 ∨ i = 2 ∨ i = 3 ∨ i = 4 ∨ i = 5 := by omega
  rcases c with e | e | e | e | e | e <;> subst e <;> rfl
theorem yS_31 : yS 1000031 [114, 101, 118, 101, 114, 115, 101] := by
  intro N h
  refine ⟨rfl, fun i hi => ?_⟩
  change i < 7 at hi
  have c : i = 0 ∨ i = 1 ∨ i = 2 ∨ i = 3 ∨ i = 4 ∨ i = 5 ∨ i = 6 := by omega
  rcases c with e | e | e | e | e | e | e <;> subst e <;> rfl
theorem yS_33 : yS 1000033 [108, 101, 97, 115, 116] := by
  intro N h
  refine ⟨rfl, fun i hi => ?_⟩
  change i < 5 at hi
  have c : i = 0 ∨ i = 1 ∨ i = 2 ∨ i = 3 ∨ i = 4 := by omega
  rcases c with e | e | e | e | e <;> subst e <;> rfl
theorem yS_35 : yS 1000035 [110, 101, 120, 116] := by
  intro N h
  refine ⟨rfl, fun i hi => ?_⟩
  change i < 4 at hi
  have c : i = 0 ∨ i = 1 ∨ i = 2 ∨ i = 3 := by omega
  rcases c with e | e | e | e <;> subst e <;> rfl
theorem yS_37 : yS 1000037 [107, 101, 101, 112] := by
  intro N h
  refine ⟨rfl, fun i hi => ?_⟩
  change i < 4 at hi
  have c : i = 0 ∨ i = 1 ∨ i = 2 ∨ i = 3 := by omega
  rcases c with e | e | e | e <;> subst e <;> rfl
theorem yS_39 : yS 1000039 [114, 101, 109, 111, 118, 101] := by
  intro N h
  refine ⟨rfl, fun i hi => ?_⟩
  change i < 6 at hi
  have c : i = 0 ∨ i = 1 ∨ i = 2 ∨ i = 3 ∨ i = 4 ∨ i = 5 := by omega
  rcases c with e | e | e | e | e | e <;> subst e <;> rfl
theorem yS_41 : yS 1000041 [106, 111, 105, 110] := by
  intro N h
  refine ⟨rfl, fun i hi => ?_⟩
  change i < 4 at hi
  have c : i = 0 ∨ i = 1 ∨ i = 2 ∨ i = 3 := by omega
  rcases c with e | e | e | e <;> subst e <;> rfl
theorem yS_43 : yS 1000043 [114, 101, 112, 101, 97, 116] := by
  intro N h
  refine ⟨rfl, fun i hi => ?_⟩
  change i < 6 at hi
  have c : i = 0 ∨ i = 1 ∨ i = 2 ∨ i = 3 ∨ i = 4 ∨ i = 5 := by omega
  rcases c with e | e | e | e | e | e <;> subst e <;> rfl
theorem yS_45 : yS 1000045 [108, 101, 116, 116, 101, 114, 115] := by
  intro N h
  refine ⟨rfl, fun i hi => ?_⟩
  change i < 7 at hi
  have c : i = 0 ∨ i = 1 ∨ i = 2 ∨ i = 3 ∨ i = 4 ∨ i = 5 ∨ i = 6 := by omega
  rcases c with e | e | e | e | e | e | e <;> subst e <;> rfl
theorem yS_49 : yS 1000049 [116, 101, 120, 116] := by
  intro N h
  refine ⟨rfl, fun i hi => ?_⟩
  change i < 4 at hi
  have c : i = 0 ∨ i = 1 ∨ i = 2 ∨ i = 3 := by omega
  rcases c with e | e | e | e <;> subst e <;> rfl
theorem yS_51 : yS 1000051 [97, 112, 112, 101, 110, 100] := by
  intro N h
  refine ⟨rfl, fun i hi => ?_⟩
  change i < 6 at hi
  have c : i = 0 ∨ i = 1 ∨ i = 2 ∨ i = 3 ∨ i = 4 ∨ i = 5 := by omega
  rcases c with e | e | e | e | e | e <;> subst e <;> rfl
theorem yS_53 : yS 1000053 [100, 114, 111, 112] := by
  intro N h
  refine ⟨rfl, fun i hi => ?_⟩
  change i < 4 at hi
  have c : i = 0 ∨ i = 1 ∨ i = 2 ∨ i = 3 := by omega
  rcases c with e | e | e | e <;> subst e <;> rfl
theorem yS_55 : yS 1000055 [112, 97, 114, 116] := by
  intro N h
  refine ⟨rfl, fun i hi => ?_⟩
  change i < 4 at hi
  have c : i = 0 ∨ i = 1 ∨ i = 2 ∨ i = 3 := by omega
  rcases c with e | e | e | e <;> subst e <;> rfl
theorem yS_57 : yS 1000057 [114, 111, 116, 97, 116, 101] := by
  intro N h
  refine ⟨rfl, fun i hi => ?_⟩
  change i < 6 at hi
  have c : i = 0 ∨ i = 1 ∨ i = 2 ∨ i = 3 ∨ i = 4 ∨ i = 5 := by omega
  rcases c with e | e | e | e | e | e <;> subst e <;> rfl
theorem yS_59 : yS 1000059 [114, 101, 118, 101, 114, 115, 101] := by
  intro N h
  refine ⟨rfl, fun i hi => ?_⟩
  change i < 7 at hi
  have c : i = 0 ∨ i = 1 ∨ i = 2 ∨ i = 3 ∨ i = 4 ∨ i = 5 ∨ i = 6 := by omega
  rcases c with e | e | e | e | e | e | e <;> subst e <;> rfl
theorem yS_61 : yS 1000061 [108, 101, 97, 115, 116] := by
  intro N h
  refine ⟨rfl, fun i hi => ?_⟩
  change i < 5 at hi
  have c : i = 0 ∨ i = 1 ∨ i = 2 ∨ i = 3 ∨ i = 4 := by omega
  rcases c with e | e | e | e | e <;> subst e <;> rfl
theorem yS_63 : yS 1000063 [110, 101, 120, 116] := by
  intro N h
  refine ⟨rfl, fun i hi => ?_⟩
  change i < 4 at hi
  have c : i = 0 ∨ i = 1 ∨ i = 2 ∨ i = 3 := by omega
  rcases c with e | e | e | e <;> subst e <;> rfl
theorem yS_65 : yS 1000065 [107, 101, 101, 112] := by
  intro N h
  refine ⟨rfl, fun i hi => ?_⟩
  change i < 4 at hi
  have c : i = 0 ∨ i = 1 ∨ i = 2 ∨ i = 3 := by omega
  rcases c with e | e | e | e <;> subst e <;> rfl
theorem yS_67 : yS 1000067 [114, 101, 109, 111, 118, 101] := by
  intro N h
  refine ⟨rfl, fun i hi => ?_⟩
  change i < 6 at hi
  have c : i = 0 ∨ i = 1 ∨ i = 2 ∨ i = 3 ∨ i = 4 ∨ i = 5 := by omega
  rcases c with e | e | e | e | e | e <;> subst e <;> rfl
theorem yS_69 : yS 1000069 [106, 111, 105, 110] := by
  intro N h
  refine ⟨rfl, fun i hi => ?_⟩
  change i < 4 at hi
  have c : i = 0 ∨ i = 1 ∨ i = 2 ∨ i = 3 := by omega
  rcases c with e | e | e | e <;> subst e <;> rfl
theorem yS_71 : yS 1000071 [114, 101, 112, 101, 97, 116] := by
  intro N h
  refine ⟨rfl, fun i hi => ?_⟩
  change i < 6 at hi
  have c : i = 0 ∨ i = 1 ∨ i = 2 ∨ i = 3 ∨ i = 4 ∨ i = 5 := by omega
  rcases c with e | e | e | e | e | e <;> subst e <;> rfl
theorem yS_73 : yS 1000073 [108, 101, 116, 116, 101, 114, 115] := by
  intro N h
  refine ⟨rfl, fun i hi => ?_⟩
  change i < 7 at hi
  have c : i = 0 ∨ i = 1 ∨ i = 2 ∨ i = 3 ∨ i = 4 ∨ i = 5 ∨ i = 6 := by omega
  rcases c with e | e | e | e | e | e | e <;> subst e <;> rfl
theorem yS_cls (i : Nat) (hi : i < 12) : yS (1000021 + 2 * i) (yt_words.getD i []) := by
  have c : i = 0 ∨ i = 1 ∨ i = 2 ∨ i = 3 ∨ i = 4 ∨ i = 5 ∨ i = 6 ∨ i = 7 ∨ i = 8 ∨ i = 9 ∨ i = 10 ∨ i = 11 := by omega
  rcases c with e | e | e | e | e | e | e | e | e | e | e | e <;> subst e
  · exact yS_21
  · exact yS_23
  · exact yS_25
  · exact yS_27
  · exact yS_29
  · exact yS_31
  · exact yS_33
  · exact yS_35
  · exact yS_37
  · exact yS_39
  · exact yS_41
  · exact yS_43
theorem yS_ref (i : Nat) (hi : i < 12) : yS (1000049 + 2 * i) (yt_words.getD i []) := by
  have c : i = 0 ∨ i = 1 ∨ i = 2 ∨ i = 3 ∨ i = 4 ∨ i = 5 ∨ i = 6 ∨ i = 7 ∨ i = 8 ∨ i = 9 ∨ i = 10 ∨ i = 11 := by omega
  rcases c with e | e | e | e | e | e | e | e | e | e | e | e <;> subst e
  · exact yS_49
  · exact yS_51
  · exact yS_53
  · exact yS_55
  · exact yS_57
  · exact yS_59
  · exact yS_61
  · exact yS_63
  · exact yS_65
  · exact yS_67
  · exact yS_69
  · exact yS_71
theorem yt_wl (i : Nat) (hi : i < 12) : (yt_words.getD i []).length ≤ 7 ∧ ∀ v ∈ yt_words.getD i [], v < 256 := by
  have h := List.all_eq_true.mp (show ((List.range 12).all fun i => decide ((yt_words.getD i []).length ≤ 7) && (yt_words.getD i []).all fun v => decide (v < 256)) = true by decide) i (List.mem_range.mpr hi)
  rw [Bool.and_eq_true, List.all_eq_true] at h
  exact ⟨of_decide_eq_true h.1, fun v hv => of_decide_eq_true (h.2 v hv)⟩
section YCG
variable {N : Nat} {h : zH} {q n : Nat} {s : List Nat}
/-- a word's bytes against a string's, from i on -/
theorem yS_15 (W : zw_W h q n s) {l3 : Nat} {b : List Nat} (hS : yS l3 b) (hb : b.length ≤ 20 ∧ ∀ v ∈ b, v < 256) {x y : Nat} (hy : y ≤ s.length) (hl : y - x = b.length) (hxy : x ≤ y) : ∀ c f i, i + c = b.length → c < f → (∀ j, j < i → s.getD (x + j) 0 = b.getD j 0) → fW_equalsString_15 N f q (Int32.ofInt (x : Int)) l3 (Int32.ofInt (i : Int)) h = some (cond (decide (zw_p s x y = b)) (Int32.ofInt 1) (Int32.ofInt 0), h) := by
  have l6 := W.2.2.2.1
  have n6 := W.2.2.2.2.1
  obtain ⟨s1, s2⟩ := hS N h
  have pl := zw_pl s x y hy
  intro c
  induction c with
  | zero =>
    intro f i h1 h2 h3
    obtain ⟨g, rfl⟩ : ∃ g, f = g + 1 := ⟨f - 1, by omega⟩
    have e : zw_p s x y = b := zm_same (by omega) (fun j hj => by
      rw [pl] at hj
      rw [zw_pd hj]
      exact h3 j (by omega))
    rw [fW_equalsString_15, s1, b2, zqo_ge _ _ (by omega) (by omega), decide_eq_true (by omega), cond_true, decide_eq_true e, cond_true]
  | succ c ih =>
    intro f i h1 h2 h3
    obtain ⟨g, rfl⟩ : ∃ g, f = g + 1 := ⟨f - 1, by omega⟩
    have g1 := zw_gD W.2.2.2.2.2 (x + i)
    have g2 := zw_gD hb.2 i
    rw [fW_equalsString_15, s1, b2, zqo_ge _ _ (by omega) (by omega), decide_eq_false (by omega), cond_false, zw_add, zw_at W _ (by omega), b2, zw_gi (by omega), show ((x : Int) + (i : Int)).toNat = x + i by omega, s2 i (by omega), b2, zqo_eq _ _ (by omega) (by omega)]
    by_cases e : s.getD (x + i) 0 = b.getD i 0
    · rw [decide_eq_true (by omega), cond_true, zh_inc]
      refine ih g (i + 1) (by omega) (by omega) (fun j hj => ?_)
      by_cases e2 : j = i
      · rw [e2]
        exact e
      · exact h3 j (by omega)
    · have e3 : ¬ zw_p s x y = b := fun z => e (by
        rw [← z, zw_pd (by omega)])
      rw [decide_eq_false (by omega), cond_false, decide_eq_false e3, cond_false]
theorem yS_eq (W : zw_W h q n s) (hN : 1000 ≤ N) {l3 : Nat} {b : List Nat} (hS : yS l3 b) (hb : b.length ≤ 20 ∧ ∀ v ∈ b, v < 256) {x y : Nat} (hxy : x ≤ y) (hy : y ≤ s.length) : fW_equalsString N q (Int32.ofInt (x : Int)) (Int32.ofInt (y : Int)) l3 h = some (cond (decide (zw_p s x y = b)) (Int32.ofInt 1) (Int32.ofInt 0), h) := by
  have l6 := W.2.2.2.1
  have n6 := W.2.2.2.2.1
  have pl := zw_pl s x y hy
  unfold fW_equalsString
  rw [zw_T W, cond_true, (hS N h).1, b2, zw_sub, zqo_eq _ _ (by omega) (by omega)]
  by_cases e : y - x = b.length
  · rw [decide_eq_true (by omega), cond_true]
    exact yS_15 W hS hb hy e hxy b.length N 0 (by omega) (by omega) (fun j hj => absurd hj (Nat.not_lt_zero j))
  · have e3 : ¬ zw_p s x y = b := fun z => e (by rw [← z, pl])
    rw [decide_eq_false (by omega), cond_false, decide_eq_false e3, cond_false]
/-- the command's cells -/
theorem yD_cells (i : Nat) (hi : i < 12) (h : zH) : fAR h 1000012 106 (Int32.ofInt (i : Int)) = some (1000000 + i) ∧ fX h (1000000 + i) = true ∧ fR h (1000000 + i) 51 0 = some (1000021 + 2 * i) := by
  have c : i = 0 ∨ i = 1 ∨ i = 2 ∨ i = 3 ∨ i = 4 ∨ i = 5 ∨ i = 6 ∨ i = 7 ∨ i = 8 ∨ i = 9 ∨ i = 10 ∨ i = 11 := by omega
  rcases c with e | e | e | e | e | e | e | e | e | e | e | e <;> subst e <;> exact ⟨rfl, rfl, rfl⟩
theorem yt_drop {i : Nat} (hi : i < 12) : yt_words.drop i = yt_words.getD i [] :: yt_words.drop (i + 1) := by
  rw [List.drop_eq_getElem_cons (show i < yt_words.length from hi), List.getD_eq_getElem?_getD, List.getElem?_eq_getElem (show i < yt_words.length from hi)]
  rfl
theorem yD_11 (W : zw_W h q n s) (hN : 1000 ≤ N) {x y : Nat} (hxy : x ≤ y) (hy : y ≤ s.length) : ∀ c f i : Nat, i + c = 12 → c < f → fD_find_11 N f q (Int32.ofInt (x : Int)) (Int32.ofInt (y : Int)) 1000012 (Int32.ofInt 12) (Int32.ofInt (i : Int)) h = some (if yt_ix (zw_p s x y) (yt_words.drop i) i < 12 then some (1000000 + yt_ix (zw_p s x y) (yt_words.drop i) i) else none, h) := by
  intro c
  induction c with
  | zero =>
    intro f i h1 h2
    obtain ⟨g, rfl⟩ : ∃ g, f = g + 1 := ⟨f - 1, by omega⟩
    have : i = 12 := by omega
    subst this
    rw [fD_find_11, zqo_ge _ _ (by omega) (by decide), decide_eq_true (by omega), cond_true]
    rfl
  | succ c ih =>
    intro f i h1 h2
    obtain ⟨g, rfl⟩ : ∃ g, f = g + 1 := ⟨f - 1, by omega⟩
    obtain ⟨d1, d2, d3⟩ := yD_cells i (by omega) h
    have w := yt_wl i (by omega)
    rw [fD_find_11, zqo_ge _ _ (by omega) (by decide), decide_eq_false (by omega), cond_false, d1, b1_s, d2, cond_true, d3, b1_s, yS_eq W hN (yS_cls i (by omega)) ⟨by omega, w.2⟩ hxy hy, b2, yt_drop (show i < 12 by omega), yt_ix]
    by_cases e : zw_p s x y = yt_words.getD i []
    · rw [decide_eq_true e, cond_true, show z_cmp .eq (Int32.ofInt 1) (Int32.ofInt 0) = false from rfl, cond_false, if_pos e, if_pos (by omega)]
    · rw [decide_eq_false e, cond_false, show z_cmp .eq (Int32.ofInt 0) (Int32.ofInt 0) = true from rfl, cond_true, if_neg e, fD_find_46, zh_inc]
      exact ih g (i + 1) (by omega) (by omega)
theorem yD_find (W : zw_W h q n s) (hN : 1000 ≤ N) {x y : Nat} (hxy : x ≤ y) (hy : y ≤ s.length) : fD_find N q (Int32.ofInt (x : Int)) (Int32.ofInt (y : Int)) h = some (if yt_cmd (zw_p s x y) < 12 then some (1000000 + yt_cmd (zw_p s x y)) else none, h) := by
  unfold fD_find
  rw [show fN h 1000012 106 = some (Int32.ofInt 12) from rfl, b1_s]
  exact yD_11 W hN hxy hy 12 N 0 rfl (by omega)
end YCG
end
section
/-! THE CLASS'S SCRIPT: repeats, a command by its word. -/
/-- a repeat's head: how often, and where its commands begin -/
def ym_rep (s : List Nat) (p : Nat) : Option (Nat × Nat) := (ym_num s p 1 20).bind fun n => if yt_q s (yt_s s n.2) = 3 then some (n.1, yt_e s (yt_s s n.2)) else none
theorem ym_repb {s : List Nat} {p t b : Nat} (hp : p ≤ s.length) (h : ym_rep s p = some (t, b)) : 1 ≤ t ∧ t ≤ 20 ∧ p + 2 ≤ b ∧ b ≤ s.length := by
  unfold ym_rep at h
  cases e1 : ym_num s p 1 20 with
  | none => rw [e1] at h; cases h
  | some n =>
    rw [e1] at h
    change (if _ then _ else _) = _ at h
    obtain ⟨_, _, _, b4, b5, b6, b7, _⟩ := ym_numb hp e1
    split at h
    · next e2 =>
      cases h
      have c1 := yt_sb b5
      have c2 := yt_eb c1.2
      have : yt_s s n.2 ≠ s.length := fun x => by
        have := (yt_q0 c1.2).mpr x
        omega
      omega
    · cases h
section YCH
variable {N : Nat} {B : yB} {h : zH} {A : zA} {nu : Nat → Int}
theorem zc_r10 {sL : Nat → Nat} {sT : Nat → List Nat} {sS : Nat → Nat → List Nat} {sK : Nat → Nat} {wd : Nat → List Nat} {hs : Nat → Nat} (C : zc h sL sT sS sK wd nu hs) : fR h 203 2 10 = some 226 := zh_R (b := 10) (by decide) C.2.2.2.1 rfl
theorem zc_r11 {sL : Nat → Nat} {sT : Nat → List Nat} {sS : Nat → Nat → List Nat} {sK : Nat → Nat} {wd : Nat → List Nat} {hs : Nat → Nat} (C : zc h sL sT sS sK wd nu hs) : fR h 203 2 11 = some 227 := zh_R (b := 11) (by decide) C.2.2.2.1 rfl
theorem yc_r10 (Y : yc B h A nu) : fR h 203 2 10 = some 226 := by
  obtain ⟨S, C, _⟩ := Y
  exact zc_r10 C
theorem yc_r11 (Y : yc B h A nu) : fR h 203 2 11 = some 227 := by
  obtain ⟨S, C, _⟩ := Y
  exact zc_r11 C
theorem yc_n10 (Y : yc B h A nu) : fN h 226 100 = some (Int32.ofInt 2) := by
  obtain ⟨S, C, _⟩ := Y
  rw [zi_N (by decide) C.2.2.2.2.1]
  rfl
theorem yc_n11 (Y : yc B h A nu) : fN h 227 100 = some (Int32.ofInt 2) := by
  obtain ⟨S, C, _⟩ := Y
  rw [zi_N (by decide) C.2.2.2.2.2.1]
  rfl
theorem yc_a10 (Y : yc B h A nu) {k : Nat} (hk : k < 2) : fAI h 226 100 (Int32.ofInt (k : Int)) = some (Int32.ofInt (nu (10 + k))) := by
  obtain ⟨S, C, _⟩ := Y
  refine zh_AI (by decide) C.2.2.2.2.1 ?_ (by omega)
  have : k = 0 ∨ k = 1 := by omega
  rcases this with e | e <;> subst e <;> rfl
theorem yc_a11 (Y : yc B h A nu) {k : Nat} (hk : k < 2) : fAI h 227 100 (Int32.ofInt (k : Int)) = some (Int32.ofInt (nu (12 + k))) := by
  obtain ⟨S, C, _⟩ := Y
  refine zh_AI (by decide) C.2.2.2.2.2.1 ?_ (by omega)
  have : k = 0 ∨ k = 1 := by omega
  rcases this with e | e <;> subst e <;> rfl
theorem zc_as10 {sL : Nat → Nat} {sT : Nat → List Nat} {sS : Nat → Nat → List Nat} {sK : Nat → Nat} {wd : Nat → List Nat} {hs : Nat → Nat} (C : zc h sL sT sS sK wd nu hs) {k : Nat} (hk : k < 2) (x : Int) : ∃ h', fAS h 226 100 (Int32.ofInt (k : Int)) (.int (Int32.ofInt x)) = some h' ∧ zc h' sL sT sS sK wd (zc_u nu (10 + k) x) hs ∧ zc_F h h' := by
  obtain ⟨k7, k8, kF⟩ := zc_cells C (p := 226) (c := (100, [.int (Int32.ofInt (zc_u nu (10 + k) x 10)), .int (Int32.ofInt (zc_u nu (10 + k) x 11))])) (by omega)
  obtain ⟨c1, c2, c3, c4, c5, c6, c7, c8, c9⟩ := C
  refine ⟨h.set 226 (100, [.int (Int32.ofInt (zc_u nu (10 + k) x 10)), .int (Int32.ofInt (zc_u nu (10 + k) x 11))]), ?_, ⟨(zh_set (by decide)).trans ?_, (zh_set (by decide)).trans ?_, (zh_set (by decide)).trans c3, (zh_set (by decide)).trans ?_, List.getElem?_set_self (List.getElem?_eq_some_iff.mp c5).1, (zh_set (by decide)).trans ?_, k7, k8, c9⟩, kF⟩
  · rw [zh_AS c5 (show k < 2 from hk) (by omega)]
    have : k = 0 ∨ k = 1 := by omega
    rcases this with e | e <;> subst e <;> rfl
  · rw [c1]
    unfold zc_o0
    rw [zc_un _ _ (show (0 : Nat) ≠ 10 + k by omega)]
  · rw [c2]
    unfold zc_o1
    rw [zc_un _ _ (show (1 : Nat) ≠ 10 + k by omega)]
  · rw [c4]
    unfold zc_o2
    rw [zc_un _ _ (show (2 : Nat) ≠ 10 + k by omega), zc_un _ _ (show (3 : Nat) ≠ 10 + k by omega), zc_un _ _ (show (4 : Nat) ≠ 10 + k by omega), zc_un _ _ (show (5 : Nat) ≠ 10 + k by omega), zc_un _ _ (show (6 : Nat) ≠ 10 + k by omega), zc_un _ _ (show (7 : Nat) ≠ 10 + k by omega), zc_un _ _ (show (8 : Nat) ≠ 10 + k by omega), zc_un _ _ (show (9 : Nat) ≠ 10 + k by omega)]
  · rw [c6, zc_un _ _ (show (12 : Nat) ≠ 10 + k by omega), zc_un _ _ (show (13 : Nat) ≠ 10 + k by omega)]
theorem zc_as11 {sL : Nat → Nat} {sT : Nat → List Nat} {sS : Nat → Nat → List Nat} {sK : Nat → Nat} {wd : Nat → List Nat} {hs : Nat → Nat} (C : zc h sL sT sS sK wd nu hs) {k : Nat} (hk : k < 2) (x : Int) : ∃ h', fAS h 227 100 (Int32.ofInt (k : Int)) (.int (Int32.ofInt x)) = some h' ∧ zc h' sL sT sS sK wd (zc_u nu (12 + k) x) hs ∧ zc_F h h' := by
  obtain ⟨k7, k8, kF⟩ := zc_cells C (p := 227) (c := (100, [.int (Int32.ofInt (zc_u nu (12 + k) x 12)), .int (Int32.ofInt (zc_u nu (12 + k) x 13))])) (by omega)
  obtain ⟨c1, c2, c3, c4, c5, c6, c7, c8, c9⟩ := C
  refine ⟨h.set 227 (100, [.int (Int32.ofInt (zc_u nu (12 + k) x 12)), .int (Int32.ofInt (zc_u nu (12 + k) x 13))]), ?_, ⟨(zh_set (by decide)).trans ?_, (zh_set (by decide)).trans ?_, (zh_set (by decide)).trans c3, (zh_set (by decide)).trans ?_, (zh_set (by decide)).trans ?_, List.getElem?_set_self (List.getElem?_eq_some_iff.mp c6).1, k7, k8, c9⟩, kF⟩
  · rw [zh_AS c6 (show k < 2 from hk) (by omega)]
    have : k = 0 ∨ k = 1 := by omega
    rcases this with e | e <;> subst e <;> rfl
  · rw [c1]
    unfold zc_o0
    rw [zc_un _ _ (show (0 : Nat) ≠ 12 + k by omega)]
  · rw [c2]
    unfold zc_o1
    rw [zc_un _ _ (show (1 : Nat) ≠ 12 + k by omega)]
  · rw [c4]
    unfold zc_o2
    rw [zc_un _ _ (show (2 : Nat) ≠ 12 + k by omega), zc_un _ _ (show (3 : Nat) ≠ 12 + k by omega), zc_un _ _ (show (4 : Nat) ≠ 12 + k by omega), zc_un _ _ (show (5 : Nat) ≠ 12 + k by omega), zc_un _ _ (show (6 : Nat) ≠ 12 + k by omega), zc_un _ _ (show (7 : Nat) ≠ 12 + k by omega), zc_un _ _ (show (8 : Nat) ≠ 12 + k by omega), zc_un _ _ (show (9 : Nat) ≠ 12 + k by omega)]
  · rw [c5, zc_un _ _ (show (10 : Nat) ≠ 12 + k by omega), zc_un _ _ (show (11 : Nat) ≠ 12 + k by omega)]
theorem yc_s10 (Y : yc B h A nu) {k : Nat} (hk : k < 2) (x : Int) : ∃ h', fAS h 226 100 (Int32.ofInt (k : Int)) (.int (Int32.ofInt x)) = some h' ∧ yc B h' A (zc_u nu (10 + k) x) ∧ zc_F h h' := by
  obtain ⟨S, C, hS, ok⟩ := Y
  obtain ⟨h1, e1, C1, F1⟩ := zc_as10 C hk x
  exact ⟨h1, e1, ⟨S, C1, hS, ok⟩, F1⟩
theorem yc_s11 (Y : yc B h A nu) {k : Nat} (hk : k < 2) (x : Int) : ∃ h', fAS h 227 100 (Int32.ofInt (k : Int)) (.int (Int32.ofInt x)) = some h' ∧ yc B h' A (zc_u nu (12 + k) x) ∧ zc_F h h' := by
  obtain ⟨S, C, hS, ok⟩ := Y
  obtain ⟨h1, e1, C1, F1⟩ := zc_as11 C hk x
  exact ⟨h1, e1, ⟨S, C1, hS, ok⟩, F1⟩
/-- a repeat is opened -/
theorem yc_open (hN : 1000 ≤ N) (Y : yc B h A nu) {p k : Nat} (h6 : nu 6 = (p : Int)) (hp : p ≤ (yW B).length) (h9 : nu 9 = (k : Int)) (hk : k ≤ 2) : ((k = 2 ∨ ym_rep (yW B) p = none) ∧ ∃ h' nu', fC_openRepeat N 203 h = some (Int32.ofInt 0, h') ∧ yc B h' A nu' ∧ zc_F h h' ∧ yn nu nu') ∨ (k < 2 ∧ ∃ t b, ym_rep (yW B) p = some (t, b) ∧ ∃ h' nu', fC_openRepeat N 203 h = some (Int32.ofInt 1, h') ∧ yc B h' A nu' ∧ zc_F h h' ∧ nu' 6 = (b : Int) ∧ nu' 8 = nu 8 ∧ nu' 9 = (k : Int) + 1 ∧ nu' (10 + k) = (b : Int) ∧ nu' (12 + k) = (t : Int) ∧ ∀ i, (i < 2 ∨ 9 < i) → i ≠ 10 + k → i ≠ 12 + k → nu' i = nu i) := by
  unfold fC_openRepeat
  rw [yc_T Y, cond_true, yc_i Y 9 (by decide), b1_s, h9, zqo_lt _ _ (by omega) (by decide), decide_eq_false (by omega), cond_false, b1_s, yc_r10 Y, b1_s, yc_n10 Y, b1_s, zqo_ge _ _ (by omega) (by decide)]
  by_cases e0 : k = 2
  · obtain ⟨h1, n1, e1, Y1, F1, r1⟩ := yc_fail (N := N) Y 4
    refine Or.inl ⟨Or.inl e0, h1, n1, ?_, Y1, F1, fun i hi => r1 i (by omega) (by omega)⟩
    rw [decide_eq_true (by omega), cond_true]
    unfold fC_openRepeat_31
    rw [e1, b2]
    rfl
  · rw [decide_eq_false (by omega), cond_false, b1_s, yc_r11 Y, b1_s, yc_n11 Y, b1_s, zqo_lt _ _ (by omega) (by decide), decide_eq_true (by omega), cond_true]
    rcases yc_num (N := N) hN Y h6 hp 1 20 (by decide) (by decide) with ⟨v, e, m1, h1, n1, e1, Y1, F1, y1, p1, v1⟩ | ⟨m1, h1, n1, e1, Y1, F1, y1⟩
    · obtain ⟨_, _, _, pe, el, vl0, vl, _⟩ := ym_numb hp m1
      rw [e1, b2, show z_cmp .eq (Int32.ofInt 1) (Int32.ofInt 0) = false from rfl, cond_false]
      rcases yc_expect (N := N) hN Y1 p1 el 3 (by decide) with ⟨q2, h2, n2, e2, Y2, F2, K2⟩ | ⟨q2, h2, n2, e2, Y2, F2, y2⟩
      · rw [e2, b2, show z_cmp .ne (Int32.ofInt 1) (Int32.ofInt 0) = true from rfl, cond_true]
        have m29 : n2 9 = (k : Int) := (K2.2.2.2.2.2 9 (by omega)).trans ((y1 9 (by omega)).trans h9)
        have m27 : n2 7 = (v : Int) := (K2.2.2.2.2.1 (by omega)).trans v1
        obtain ⟨h3, e3, Y3, F3⟩ := yc_s10 Y2 (show k < 2 by omega) (yt_e (yW B) (yt_s (yW B) e) : Int)
        obtain ⟨h4, e4, Y4, F4⟩ := yc_s11 Y3 (show k < 2 by omega) (v : Int)
        obtain ⟨h5, e5, Y5, F5⟩ := yc_s Y4 9 (by decide) ((k : Int) + 1)
        refine Or.inr ⟨by omega, v, yt_e (yW B) (yt_s (yW B) e), ?_, h5, _, ?_, Y5, zc_Ft F1 (zc_Ft F2 (zc_Ft F3 (zc_Ft F4 F5))), ?_, ?_, zc_us _ _ _, ?_, ?_, fun i hi a b => ?_⟩
        · rw [ym_rep, m1]
          show (if yt_q (yW B) (yt_s (yW B) e) = 3 then some (v, yt_e (yW B) (yt_s (yW B) e)) else none) = _
          rw [if_pos (by omega)]
        · rw [yc_r10 Y2, b1_s, yc_i Y2 9 (by decide), b1_s, m29, yc_i Y2 6 (by decide), b1_s, K2.2.2.1, e3, b1_s, yc_r11 Y3, b1_s, yc_i Y3 9 (by decide), b1_s, zc_un _ _ (show (9 : Nat) ≠ 10 + k by omega), m29, yc_i Y3 7 (by decide), b1_s, zc_un _ _ (show (7 : Nat) ≠ 10 + k by omega), m27, e4, b1_s, yc_i Y4 9 (by decide), b1_s, zc_un _ _ (show (9 : Nat) ≠ 12 + k by omega), zc_un _ _ (show (9 : Nat) ≠ 10 + k by omega), m29, zw_add, e5, b1_s]
        · rw [zc_un _ _ (show (6 : Nat) ≠ 9 by omega), zc_un _ _ (show (6 : Nat) ≠ 12 + k by omega), zc_un _ _ (show (6 : Nat) ≠ 10 + k by omega)]
          exact K2.2.2.1
        · rw [zc_un _ _ (show (8 : Nat) ≠ 9 by omega), zc_un _ _ (show (8 : Nat) ≠ 12 + k by omega), zc_un _ _ (show (8 : Nat) ≠ 10 + k by omega)]
          exact (K2.2.2.2.2.2 8 (by omega)).trans (y1 8 (by omega))
        · rw [zc_un _ _ (show 10 + k ≠ 9 by omega), zc_un _ _ (show 10 + k ≠ 12 + k by omega), zc_us]
        · rw [zc_un _ _ (show 12 + k ≠ 9 by omega), zc_us]
        · rw [zc_un _ _ (show i ≠ 9 by omega), zc_un _ _ b, zc_un _ _ a]
          exact (K2.2.2.2.2.2 i (by omega)).trans (y1 i (by omega))
      · refine Or.inl ⟨Or.inr ?_, h2, n2, ?_, Y2, zc_Ft F1 F2, yn_t y1 y2⟩
        · rw [ym_rep, m1]
          show (if yt_q (yW B) (yt_s (yW B) e) = 3 then some (v, yt_e (yW B) (yt_s (yW B) e)) else none) = _
          rw [if_neg (by omega)]
        · rw [e2, b2, show z_cmp .ne (Int32.ofInt 0) (Int32.ofInt 0) = false from rfl, cond_false]
          rfl
    · refine Or.inl ⟨Or.inr ?_, h1, n1, ?_, Y1, F1, y1⟩
      · rw [ym_rep, m1]
        rfl
      · rw [e1, b2, show z_cmp .eq (Int32.ofInt 0) (Int32.ofInt 0) = true from rfl, cond_true]
        rfl
/-- a round ends; a further one follows -/
theorem yc_again (Y : yc B h A nu) {k b t : Nat} (h9 : nu 9 = (k : Int) + 1) (hk : k < 2) (hb : nu (10 + k) = (b : Int)) (ht : nu (12 + k) = (t : Int)) (h2 : 2 ≤ t ∧ t ≤ 20) : ∃ h' nu', fC_endRound N 203 h = some (Int32.ofInt 1, h') ∧ yc B h' A nu' ∧ zc_F h h' ∧ nu' 6 = (b : Int) ∧ nu' (12 + k) = (t : Int) - 1 ∧ ∀ i, i ≠ 6 → i ≠ 12 + k → nu' i = nu i := by
  obtain ⟨h1, e1, Y1, F1⟩ := yc_s11 Y hk ((t : Int) - 1)
  obtain ⟨h3, e3, Y3, F3⟩ := yc_s Y1 6 (by decide) (b : Int)
  refine ⟨h3, _, ?_, Y3, zc_Ft F1 F3, zc_us _ _ _, ?_, fun i a c => ?_⟩
  · unfold fC_endRound
    rw [yc_T Y, cond_true, yc_i Y 9 (by decide), b1_s, h9, zw_sub, show (k : Int) + 1 - 1 = (k : Int) by omega, zqo_lt _ _ (by omega) (by decide), decide_eq_false (by omega), cond_false, yc_r10 Y, b1_s, yc_n10 Y, b1_s, zqo_ge _ _ (by omega) (by decide), decide_eq_false (by omega), cond_false, yc_r11 Y, b1_s, yc_n11 Y, b1_s, zqo_lt _ _ (by omega) (by decide), decide_eq_true (by omega), cond_true, b1_s, yc_a11 Y hk, b1_s, ht, zw_sub, e1, b1_s, yc_r11 Y1, b1_s, yc_a11 Y1 hk, b1_s, zc_us, zqo_le _ _ (by omega) (by decide), decide_eq_false (by omega), cond_false, yc_r10 Y1, b1_s, yc_a10 Y1 hk, b1_s, zc_un _ _ (show 10 + k ≠ 12 + k by omega), hb, e3, b1_s]
  · rw [zc_un _ _ (show 12 + k ≠ 6 by omega), zc_us]
  · rw [zc_un _ _ a, zc_un _ _ c]
/-- the last round ends -/
theorem yc_last (hN : 1000 ≤ N) (Y : yc B h A nu) {p k : Nat} (h6 : nu 6 = (p : Int)) (hp : p ≤ (yW B).length) (h9 : nu 9 = (k : Int) + 1) (hk : k < 2) (ht : nu (12 + k) = 1) : (∃ e, ym_sem (yW B) p = some e ∧ ∃ h' nu', fC_endRound N 203 h = some (Int32.ofInt 1, h') ∧ yc B h' A nu' ∧ zc_F h h' ∧ nu' 6 = (e : Int) ∧ nu' 9 = (k : Int) ∧ ∀ i, (i < 2 ∨ 7 < i) → i ≠ 9 → i ≠ 12 + k → nu' i = nu i) ∨ (ym_sem (yW B) p = none ∧ ∃ h' nu', fC_endRound N 203 h = some (Int32.ofInt 0, h') ∧ yc B h' A nu' ∧ zc_F h h' ∧ ∀ i, i < 2 → nu' i = nu i) := by
  obtain ⟨h1, e1, Y1, F1⟩ := yc_s11 Y hk 0
  obtain ⟨h3, e3, Y3, F3⟩ := yc_s Y1 9 (by decide) (k : Int)
  have s0 : fC_endRound N 203 h = b2 (fC_expect N 203 (Int32.ofInt 5) h3) fun x12 h13 => cond (decide (x12 = Int32.ofInt 0) || decide (x12 = Int32.ofInt 1)) (some (x12, h13)) none := by
    unfold fC_endRound
    rw [yc_T Y, cond_true, yc_i Y 9 (by decide), b1_s, h9, zw_sub, show (k : Int) + 1 - 1 = (k : Int) by omega, zqo_lt _ _ (by omega) (by decide), decide_eq_false (by omega), cond_false, yc_r10 Y, b1_s, yc_n10 Y, b1_s, zqo_ge _ _ (by omega) (by decide), decide_eq_false (by omega), cond_false, yc_r11 Y, b1_s, yc_n11 Y, b1_s, zqo_lt _ _ (by omega) (by decide), decide_eq_true (by omega), cond_true, b1_s, yc_a11 Y hk, b1_s, ht, zw_sub, show (1 : Int) - 1 = 0 by decide, e1, b1_s, yc_r11 Y1, b1_s, yc_a11 Y1 hk, b1_s, zc_us, show z_cmp .le (Int32.ofInt 0) (Int32.ofInt 0) = true from rfl, cond_true, e3, b1_s]
  have n3 : ∀ i, i ≠ 9 → i ≠ 12 + k → zc_u (zc_u nu (12 + k) 0) 9 (k : Int) i = nu i := fun i a b => by rw [zc_un _ _ a, zc_un _ _ b]
  rcases yc_sem (N := N) hN Y3 (p := p) ((n3 6 (by omega) (by omega)).trans h6) hp with ⟨e, m2, h2, n2, e2, Y2, F2, y2, p2, v2⟩ | ⟨m2, h2, n2, e2, Y2, F2, y2⟩
  · refine Or.inl ⟨e, m2, h2, n2, ?_, Y2, zc_Ft F1 (zc_Ft F3 F2), p2, (y2 9 (by omega)).trans (zc_us _ _ _), fun i hi a b => (y2 i hi).trans (n3 i a b)⟩
    rw [s0, e2, b2]
    rfl
  · refine Or.inr ⟨m2, h2, n2, ?_, Y2, zc_Ft F1 (zc_Ft F3 F2), fun i hi => (y2 i (by omega)).trans (n3 i (by omega) (by omega))⟩
    rw [s0, e2, b2]
    rfl
theorem yO_w {r : Option (Int32 × zH)} {x : Option (zA × Nat)} (o : yO B h nu r x) : b2 r (fun a g => cond (decide (a = Int32.ofInt 0) || decide (a = Int32.ofInt 1)) (some (a, g)) none) = r := by
  rcases o with ⟨_, h', _, _, b, _⟩ | ⟨_, _, _, h', _, b, _⟩
  · rw [b, b2]
    rfl
  · rw [b, b2]
    rfl
/-- a command that is none of repeat, behind its word -/
theorem yc_run1 (hN : 3000 ≤ N) (Y : yc B h A nu) {p i ex : Nat} (h6 : nu 6 = (p : Int)) (hp : p ≤ (yW B).length) (h8 : nu 8 = (ex : Int)) (hx : ex < 200) (hi : i < 11) : ∃ h1, yc B h1 A (zc_u nu 8 ((ex : Int) + 1)) ∧ zc_F h h1 ∧ yO B h1 (zc_u nu 8 ((ex : Int) + 1)) (fC_runCommand_27 N 203 (some (1000000 + i)) h) (yx i (yW B) A p) := by
  have ok := yc_ok Y
  obtain ⟨h1, e1, Y1, F1⟩ := yc_s Y 8 (by decide) ((ex : Int) + 1)
  have n6 : zc_u nu 8 ((ex : Int) + 1) 6 = (p : Int) := (zc_un nu _ (by decide)).trans h6
  refine ⟨h1, Y1, F1, ?_⟩
  have hd : ∀ (g : Int32 → zH → Option (Int32 × zH)) (u : Option (Int32 × zH)), (b1 (fI h 203 2 8) fun x7 => cond (z_cmp .lt x7 (Int32.ofInt 200)) (b1 (fI h 203 2 8) fun x8 => b1 (fS h 203 2 8 (.int (x8 + (Int32.ofInt 1)))) fun h9 => b2 (fJ_ordinal N (1000000 + i) h9) g) u) = b2 (fJ_ordinal N (1000000 + i) h1) g := fun g u => by
    rw [yc_i Y 8 (by decide), b1_s, h8, zqo_lt _ _ (by omega) (by decide), decide_eq_true (by omega), cond_true, b1_s, zw_add, e1, b1_s]
  have c : i = 0 ∨ i = 1 ∨ i = 2 ∨ i = 3 ∨ i = 4 ∨ i = 5 ∨ i = 6 ∨ i = 7 ∨ i = 8 ∨ i = 9 ∨ i = 10 := by omega
  rcases c with c | c | c | c | c | c | c | c | c | c | c <;> subst c
  · have o := yc_word hN Y1 n6 hp 0 (T0 := []) rfl (Or.inl ⟨rfl, rfl⟩)
    have e : fC_runCommand_27 N 203 (some 1000000) h = b2 (fC_runText N 203 (Int32.ofInt 0) h1) (fun a g => cond (decide (a = Int32.ofInt 0) || decide (a = Int32.ofInt 1)) (some (a, g)) none) := (hd _ _).trans rfl
    rw [show (1000000 + 0 : Nat) = 1000000 from rfl, e, yO_w o]
    exact o
  · have o := yc_word hN Y1 n6 hp 1 (T0 := A.2.1) (List.take_of_length_le (Nat.le_refl _)) (Or.inr ⟨rfl, rfl⟩)
    have e : fC_runCommand_27 N 203 (some 1000001) h = b2 (fC_runText N 203 (Int32.ofInt 1) h1) (fun a g => cond (decide (a = Int32.ofInt 0) || decide (a = Int32.ofInt 1)) (some (a, g)) none) := (hd _ _).trans rfl
    rw [show (1000000 + 1 : Nat) = 1000001 from rfl, e, yO_w o]
    exact o
  · have o := yc_drop hN Y1 n6 hp
    have e : fC_runCommand_27 N 203 (some 1000002) h = b2 (fC_runDrop N 203 h1) (fun a g => cond (decide (a = Int32.ofInt 0) || decide (a = Int32.ofInt 1)) (some (a, g)) none) := (hd _ _).trans rfl
    rw [show (1000000 + 2 : Nat) = 1000002 from rfl, e, yO_w o]
    exact o
  · have o := yc_part hN Y1 n6 hp
    have e : fC_runCommand_27 N 203 (some 1000003) h = b2 (fC_runPart N 203 h1) (fun a g => cond (decide (a = Int32.ofInt 0) || decide (a = Int32.ofInt 1)) (some (a, g)) none) := (hd _ _).trans rfl
    rw [show (1000000 + 3 : Nat) = 1000003 from rfl, e, yO_w o]
    exact o
  · have o := yc_rotate hN Y1 n6 hp
    have e : fC_runCommand_27 N 203 (some 1000004) h = b2 (fC_runRotate N 203 h1) (fun a g => cond (decide (a = Int32.ofInt 0) || decide (a = Int32.ofInt 1)) (some (a, g)) none) := (hd _ _).trans rfl
    rw [show (1000000 + 4 : Nat) = 1000004 from rfl, e, yO_w o]
    exact o
  · have o := yc_reverse hN Y1 n6 hp
    have e : fC_runCommand_27 N 203 (some 1000005) h = b2 (fC_runReverse N 203 h1) (fun a g => cond (decide (a = Int32.ofInt 0) || decide (a = Int32.ofInt 1)) (some (a, g)) none) := (hd _ _).trans rfl
    rw [show (1000000 + 5 : Nat) = 1000005 from rfl, e, yO_w o]
    exact o
  · have o := yc_least hN Y1 n6 hp
    have e : fC_runCommand_27 N 203 (some 1000006) h = b2 (fC_runLeast N 203 h1) (fun a g => cond (decide (a = Int32.ofInt 0) || decide (a = Int32.ofInt 1)) (some (a, g)) none) := (hd _ _).trans rfl
    rw [show (1000000 + 6 : Nat) = 1000006 from rfl, e, yO_w o]
    exact o
  · have o := yc_next hN Y1 n6 hp
    have e : fC_runCommand_27 N 203 (some 1000007) h = b2 (fC_runNext N 203 h1) (fun a g => cond (decide (a = Int32.ofInt 0) || decide (a = Int32.ofInt 1)) (some (a, g)) none) := (hd _ _).trans rfl
    rw [show (1000000 + 7 : Nat) = 1000007 from rfl, e, yO_w o]
    exact o
  · have o := yc_keep hN Y1 n6 hp
    have e : fC_runCommand_27 N 203 (some 1000008) h = b2 (fC_runKeep N 203 h1) (fun a g => cond (decide (a = Int32.ofInt 0) || decide (a = Int32.ofInt 1)) (some (a, g)) none) := (hd _ _).trans rfl
    rw [show (1000000 + 8 : Nat) = 1000008 from rfl, e, yO_w o]
    exact o
  · have o := yc_remove hN Y1 n6 hp
    have e : fC_runCommand_27 N 203 (some 1000009) h = b2 (fC_runRemove N 203 h1) (fun a g => cond (decide (a = Int32.ofInt 0) || decide (a = Int32.ofInt 1)) (some (a, g)) none) := (hd _ _).trans rfl
    rw [show (1000000 + 9 : Nat) = 1000009 from rfl, e, yO_w o]
    exact o
  · have o := yc_join hN Y1 n6 hp
    have e : fC_runCommand_27 N 203 (some 1000010) h = b2 (fC_runJoin N 203 h1) (fun a g => cond (decide (a = Int32.ofInt 0) || decide (a = Int32.ofInt 1)) (some (a, g)) none) := (hd _ _).trans rfl
    rw [show (1000000 + 10 : Nat) = 1000010 from rfl, e, yO_w o]
    exact o
/-- a command by its word -/
theorem yc_cmd (hN : 3000 ≤ N) (Y : yc B h A nu) {a b : Nat} (h4 : nu 4 = 1) (h5 : nu 5 = (a : Int)) (h6 : nu 6 = (b : Int)) (hab : a ≤ b) (hb : b ≤ (yW B).length) : fC_runCommand N 203 h = fC_runCommand_27 N 203 (if yt_cmd (zw_p (yW B) a b) < 12 then some (1000000 + yt_cmd (zw_p (yW B) a b)) else none) h := by
  unfold fC_runCommand
  rw [yc_T Y, cond_true, yc_i Y 4 (by decide), b1_s, h4, show z_cmp .ne (Int32.ofInt 1) (Int32.ofInt 1) = false from rfl, cond_false, yc_r0 Y, b1_s, yc_i Y 5 (by decide), b1_s, h5, yc_i Y 6 (by decide), b1_s, h6, yD_find (yc_W Y) (by omega) hab hb, b2]
  split <;> next e => rw [e]
/-- what is no word -/
theorem yc_noword (Y : yc B h A nu) {q : Nat} (h4 : nu 4 = (q : Int)) (hq : q ≤ 7) (h1 : q ≠ 1) : ∃ h' nu', fC_runCommand N 203 h = some (Int32.ofInt 0, h') ∧ yc B h' A nu' ∧ zc_F h h' ∧ yn nu nu' := by
  obtain ⟨h2, n2, e2, Y2, F2, r2⟩ := yc_fail (N := N) Y 1
  refine ⟨h2, n2, ?_, Y2, F2, fun i hi => r2 i (by omega) (by omega)⟩
  unfold fC_runCommand
  rw [yc_T Y, cond_true, yc_i Y 4 (by decide), b1_s, h4, zqo_ne _ _ (by omega) (by decide), decide_eq_false (by omega), Bool.not_false, cond_true]
  show b2 (fC_fail N 203 (Int32.ofInt 1) h) _ = _
  rw [e2, b2]
  rfl
theorem yc_nocmd (Y : yc B h A nu) : ∃ h' nu', fC_runCommand_27 N 203 none h = some (Int32.ofInt 0, h') ∧ yc B h' A nu' ∧ zc_F h h' ∧ yn nu nu' := by
  obtain ⟨h2, n2, e2, Y2, F2, r2⟩ := yc_fail (N := N) Y 1
  refine ⟨h2, n2, ?_, Y2, F2, fun i hi => r2 i (by omega) (by omega)⟩
  show b2 (fC_fail N 203 (Int32.ofInt 1) h) _ = _
  rw [e2, b2]
  rfl
theorem yc_many (Y : yc B h A nu) {i ex : Nat} (h8 : nu 8 = (ex : Int)) (hx : 200 ≤ ex ∧ ex ≤ 1000) (hi : i < 11) : ∃ h' nu', fC_runCommand_27 N 203 (some (1000000 + i)) h = some (Int32.ofInt 0, h') ∧ yc B h' A nu' ∧ zc_F h h' ∧ yn nu nu' := by
  obtain ⟨h2, n2, e2, Y2, F2, r2⟩ := yc_fail (N := N) Y 5
  refine ⟨h2, n2, ?_, Y2, F2, fun i hi => r2 i (by omega) (by omega)⟩
  have hd : ∀ (v : Option (Int32 × zH)), (b1 (fI h 203 2 8) fun x7 => cond (z_cmp .lt x7 (Int32.ofInt 200)) v (b2 (fC_fail N 203 (Int32.ofInt 5) h) fun a g => cond (decide (a = Int32.ofInt 0) || decide (a = Int32.ofInt 1)) (some (a, g)) none)) = some (Int32.ofInt 0, h2) := fun v => by
    rw [yc_i Y 8 (by decide), b1_s, h8, zqo_lt _ _ (by omega) (by decide), decide_eq_false (by omega), cond_false, e2, b2]
    rfl
  have c : i = 0 ∨ i = 1 ∨ i = 2 ∨ i = 3 ∨ i = 4 ∨ i = 5 ∨ i = 6 ∨ i = 7 ∨ i = 8 ∨ i = 9 ∨ i = 10 := by omega
  rcases c with c | c | c | c | c | c | c | c | c | c | c <;> subst c <;> exact hd _
theorem yc_rep27 : fC_runCommand_27 N 203 (some 1000011) h = b2 (fC_openRepeat N 203 h) (fun a g => cond (decide (a = Int32.ofInt 0) || decide (a = Int32.ofInt 1)) (some (a, g)) none) := rfl
end YCH
end
section
/-! SCRIPTS, on lists: commands one after the other, repeats in repeats. -/
/-- the number of the command whose word is behind p -/
def ym_w (s : List Nat) (p : Nat) : Nat := yt_cmd (zw_p s (yt_s s p) (yt_e s (yt_s s p)))
/-- commands up to a token of the kind cl: the state, how many were executed, where that token is -/
def yb (rp : zA → Nat → Nat → Option (zA × Nat × Nat)) (s : List Nat) (cl : Nat) : Nat → zA → Nat → Nat → Option (zA × Nat × Nat)
  | 0, _, _, _ => none
  | c + 1, A, ex, p =>
    if yt_q s (yt_s s p) = cl then some (A, ex, p)
    else if yt_q s (yt_s s p) = 1 then
      (if ym_w s p = 11 then (rp A ex (yt_e s (yt_s s p))).bind fun r => yb rp s cl c r.1 r.2.1 r.2.2
      else if ym_w s p = 12 ∨ 200 ≤ ex then none
      else (yx (ym_w s p) s A (yt_e s (yt_s s p))).bind fun r => yb rp s cl c r.1 (ex + 1) r.2)
    else none
/-- rounds -/
def yr (bd : zA → Nat → Option (zA × Nat × Nat)) : Nat → zA → Nat → Option (zA × Nat × Nat)
  | 0, _, _ => none
  | t + 1, A, ex => (bd A ex).bind fun r => if t = 0 then some r else yr bd t r.1 r.2.1
/-- behind the last round -/
def yq (s : List Nat) (x : Option (zA × Nat × Nat)) : Option (zA × Nat × Nat) := x.bind fun r => (ym_sem s (yt_e s (yt_s s r.2.2))).bind fun e => some (r.1, r.2.1, e)
/-- a repeat behind its word -/
def yp (bd : Nat → zA → Nat → Option (zA × Nat × Nat)) (s : List Nat) (A : zA) (ex p : Nat) : Option (zA × Nat × Nat) := (ym_rep s p).bind fun tb => yq s (yr (bd tb.2) tb.1 A ex)
def yL2 (s : List Nat) (b : Nat) (A : zA) (ex : Nat) : Option (zA × Nat × Nat) := yb (fun _ _ _ => none) s 4 (s.length + 1) A ex b
def yR1 (s : List Nat) : zA → Nat → Nat → Option (zA × Nat × Nat) := yp (yL2 s) s
def yL1 (s : List Nat) (b : Nat) (A : zA) (ex : Nat) : Option (zA × Nat × Nat) := yb (yR1 s) s 4 (s.length + 1) A ex b
def yR0 (s : List Nat) : zA → Nat → Nat → Option (zA × Nat × Nat) := yp (yL1 s) s
def yL0 (s : List Nat) (A : zA) (p : Nat) : Option (zA × Nat × Nat) := yb (yR0 s) s 0 (s.length + 1) A 0 p
/-- a script's head: the state that it begins with, and where it ends -/
def yz_h (s : List Nat) : Option (zA × Nat) := if yt_q s (yt_s s 0) = 1 ∧ zw_p s (yt_s s 0) (yt_e s (yt_s s 0)) = yt_letters then (ym_num s (yt_e s (yt_s s 0)) 2 9).bind fun n => (ym_sem s n.2).bind fun e => some ((n.1, [], []), e) else none
/-- a script: the state that it makes -/
def yz (s : List Nat) : Option zA := (yz_h s).bind fun r => (yL0 s r.1 r.2).bind fun x => some x.1
theorem yt_tokb {s : List Nat} {p : Nat} (hp : p ≤ s.length) (h : yt_q s (yt_s s p) ≠ 0) : p < yt_e s (yt_s s p) ∧ yt_e s (yt_s s p) ≤ s.length := by
  have b1' := yt_sb hp
  have b2' := yt_eb b1'.2
  have : yt_s s p ≠ s.length := fun x => h ((yt_q0 b1'.2).mpr x)
  exact ⟨by omega, b2'.2.1⟩
/-- where a repeat ends is told by where it begins -/
def yPd (rp : zA → Nat → Nat → Option (zA × Nat × Nat)) (s : List Nat) : Prop := ∀ A ex p A' ex' q, p ≤ s.length → rp A ex p = some (A', ex', q) → p < q ∧ q ≤ s.length ∧ ∀ A2 ex2 A3 ex3 q2, rp A2 ex2 p = some (A3, ex3, q2) → q2 = q
/-- the cases of commands that go through -/
theorem yb_cases {rp : zA → Nat → Nat → Option (zA × Nat × Nat)} {s : List Nat} {cl c ex p q ex' : Nat} {A A' : zA} (h : yb rp s cl (c + 1) A ex p = some (A', ex', q)) : (yt_q s (yt_s s p) = cl ∧ q = p ∧ A' = A ∧ ex' = ex) ∨ (yt_q s (yt_s s p) ≠ cl ∧ yt_q s (yt_s s p) = 1 ∧ ((ym_w s p = 11 ∧ ∃ A1 ex1 e, rp A ex (yt_e s (yt_s s p)) = some (A1, ex1, e) ∧ yb rp s cl c A1 ex1 e = some (A', ex', q)) ∨ (ym_w s p ≠ 11 ∧ ym_w s p ≠ 12 ∧ ex < 200 ∧ ∃ A1 e, yx (ym_w s p) s A (yt_e s (yt_s s p)) = some (A1, e) ∧ yb rp s cl c A1 (ex + 1) e = some (A', ex', q)))) := by
  rw [yb] at h
  by_cases e1 : yt_q s (yt_s s p) = cl
  · rw [if_pos e1] at h
    cases h
    exact Or.inl ⟨e1, rfl, rfl, rfl⟩
  · rw [if_neg e1] at h
    by_cases e2 : yt_q s (yt_s s p) = 1
    · rw [if_pos e2] at h
      refine Or.inr ⟨e1, e2, ?_⟩
      by_cases e3 : ym_w s p = 11
      · rw [if_pos e3] at h
        refine Or.inl ⟨e3, ?_⟩
        cases e4 : rp A ex (yt_e s (yt_s s p)) with
        | none => rw [e4] at h; cases h
        | some r =>
          rw [e4] at h
          exact ⟨r.1, r.2.1, r.2.2, rfl, h⟩
      · rw [if_neg e3] at h
        by_cases e4 : ym_w s p = 12 ∨ 200 ≤ ex
        · rw [if_pos e4] at h
          cases h
        · rw [if_neg e4] at h
          refine Or.inr ⟨e3, fun x => e4 (Or.inl x), by omega, ?_⟩
          cases e5 : yx (ym_w s p) s A (yt_e s (yt_s s p)) with
          | none => rw [e5] at h; cases h
          | some r =>
            rw [e5] at h
            exact ⟨r.1, r.2, rfl, h⟩
    · rw [if_neg e2] at h
      cases h
/-- where commands end is told by where they begin -/
theorem yb_det {rp : zA → Nat → Nat → Option (zA × Nat × Nat)} {s : List Nat} {cl : Nat} (D : yPd rp s) : ∀ c A ex p A' ex' q, p ≤ s.length → yb rp s cl c A ex p = some (A', ex', q) → p ≤ q ∧ q ≤ s.length ∧ yt_q s (yt_s s q) = cl ∧ ∀ c2 A2 ex2 A3 ex3 q2, yb rp s cl c2 A2 ex2 p = some (A3, ex3, q2) → q2 = q := by
  intro c
  induction c with
  | zero => intro A ex p A' ex' q hp h; cases h
  | succ c ih =>
    intro A ex p A' ex' q hp h
    rcases yb_cases h with ⟨e1, e2, _, _⟩ | ⟨e1, e2, e3⟩
    · subst e2
      refine ⟨Nat.le_refl q, hp, e1, fun c2 A2 ex2 A3 ex3 q2 h2 => ?_⟩
      cases c2 with
      | zero => cases h2
      | succ c2 =>
        rcases yb_cases h2 with ⟨_, d2, _, _⟩ | ⟨d1, _, _⟩
        · exact d2
        · exact absurd e1 d1
    · have tb := yt_tokb hp (show yt_q s (yt_s s p) ≠ 0 by omega)
      rcases e3 with ⟨f1, A1, ex1, e, f2, f3⟩ | ⟨f1, f2, f3, A1, e, f4, f5⟩
      · obtain ⟨g1, g2, g3⟩ := D _ _ _ _ _ _ tb.2 f2
        obtain ⟨i1, i2, i3, i4⟩ := ih A1 ex1 e A' ex' q g2 f3
        refine ⟨by omega, i2, i3, fun c2 A2 ex2 A3 ex3 q2 h2 => ?_⟩
        cases c2 with
        | zero => cases h2
        | succ c2 =>
          rcases yb_cases h2 with ⟨d1, _, _, _⟩ | ⟨_, _, d3⟩
          · exact absurd d1 e1
          · rcases d3 with ⟨_, B1, ey, e', k2, k3⟩ | ⟨k1, _⟩
            · have := g3 _ _ _ _ _ k2
              subst this
              exact i4 _ _ _ _ _ _ k3
            · exact absurd f1 k1
      · obtain ⟨g1, g2, g3⟩ := yx_end tb.2 f4
        obtain ⟨i1, i2, i3, i4⟩ := ih A1 (ex + 1) e A' ex' q g2 f5
        refine ⟨by omega, i2, i3, fun c2 A2 ex2 A3 ex3 q2 h2 => ?_⟩
        cases c2 with
        | zero => cases h2
        | succ c2 =>
          rcases yb_cases h2 with ⟨d1, _, _, _⟩ | ⟨_, _, d3⟩
          · exact absurd d1 e1
          · rcases d3 with ⟨k1, _⟩ | ⟨_, _, _, B1, e', k2, k3⟩
            · exact absurd k1 f1
            · have := (yx_end tb.2 k2).2.2
              rw [← g3] at this
              subst this
              exact i4 _ _ _ _ _ _ k3
theorem yb_lt {rp : zA → Nat → Nat → Option (zA × Nat × Nat)} {s : List Nat} {cl c ex p q ex' : Nat} {A A' : zA} (D : yPd rp s) (hp : p ≤ s.length) (h : yb rp s cl (c + 1) A ex p = some (A', ex', q)) (hc : yt_q s (yt_s s p) ≠ cl) : p < q := by
  rcases yb_cases h with ⟨e1, _⟩ | ⟨e1, e2, e3⟩
  · exact absurd e1 hc
  · have tb := yt_tokb hp (show yt_q s (yt_s s p) ≠ 0 by omega)
    rcases e3 with ⟨f1, A1, ex1, e, f2, f3⟩ | ⟨f1, f2, f3, A1, e, f4, f5⟩
    · obtain ⟨g1, g2, g3⟩ := D _ _ _ _ _ _ tb.2 f2
      have := (yb_det D _ _ _ _ _ _ _ g2 f3).1
      omega
    · obtain ⟨g1, g2, g3⟩ := yx_end tb.2 f4
      have := (yb_det D _ _ _ _ _ _ _ g2 f5).1
      omega
/-- a body: where it ends is told by where it begins -/
def yBd (bd : Nat → zA → Nat → Option (zA × Nat × Nat)) (s : List Nat) : Prop := ∀ b A ex A' ex' q, b ≤ s.length → bd b A ex = some (A', ex', q) → b ≤ q ∧ q ≤ s.length ∧ yt_q s (yt_s s q) = 4 ∧ ∀ A2 ex2 A3 ex3 q2, bd b A2 ex2 = some (A3, ex3, q2) → q2 = q
theorem yr_of {bd : zA → Nat → Option (zA × Nat × Nat)} : ∀ t A ex A' ex' q, yr bd t A ex = some (A', ex', q) → ∃ A1 ex1, bd A1 ex1 = some (A', ex', q) := by
  intro t
  induction t with
  | zero => intro A ex A' ex' q h; cases h
  | succ t ih =>
    intro A ex A' ex' q h
    rw [yr] at h
    cases e1 : bd A ex with
    | none => rw [e1] at h; cases h
    | some r =>
      rw [e1] at h
      change (if t = 0 then some r else yr bd t r.1 r.2.1) = _ at h
      split at h
      · cases h
        exact ⟨A, ex, e1⟩
      · exact ih _ _ _ _ _ h
theorem yq_of {s : List Nat} {x : Option (zA × Nat × Nat)} {A' : zA} {ex' e : Nat} (h : yq s x = some (A', ex', e)) : ∃ q, x = some (A', ex', q) ∧ ym_sem s (yt_e s (yt_s s q)) = some e := by
  unfold yq at h
  cases x with
  | none => cases h
  | some r =>
    change (ym_sem s (yt_e s (yt_s s r.2.2))).bind _ = _ at h
    cases e1 : ym_sem s (yt_e s (yt_s s r.2.2)) with
    | none => rw [e1] at h; cases h
    | some e =>
      rw [e1] at h
      cases h
      exact ⟨r.2.2, rfl, e1⟩
theorem yp_of {bd : Nat → zA → Nat → Option (zA × Nat × Nat)} {s : List Nat} {A A' : zA} {ex p ex' e : Nat} (h : yp bd s A ex p = some (A', ex', e)) : ∃ t b q, ym_rep s p = some (t, b) ∧ yr (bd b) t A ex = some (A', ex', q) ∧ ym_sem s (yt_e s (yt_s s q)) = some e := by
  unfold yp at h
  cases e1 : ym_rep s p with
  | none => rw [e1] at h; cases h
  | some tb =>
    rw [e1] at h
    obtain ⟨q, q1, q2⟩ := yq_of h
    exact ⟨tb.1, tb.2, q, rfl, q1, q2⟩
theorem yp_det {bd : Nat → zA → Nat → Option (zA × Nat × Nat)} {s : List Nat} (D : yBd bd s) : yPd (yp bd s) s := by
  intro A ex p A' ex' e hp h
  obtain ⟨t, b, q, h1, h2, h3⟩ := yp_of h
  obtain ⟨_, _, r3, r4⟩ := ym_repb hp h1
  obtain ⟨A1, ex1, h4⟩ := yr_of _ _ _ _ _ _ h2
  obtain ⟨d1, d2, d3, d4⟩ := D _ _ _ _ _ _ r4 h4
  have tb := yt_tokb d2 (show yt_q s (yt_s s q) ≠ 0 by omega)
  obtain ⟨_, m2, m3, m4⟩ := ym_semb tb.2 h3
  refine ⟨by omega, m4, fun A2 ex2 A3 ex3 e2 g => ?_⟩
  obtain ⟨t', b', q', g1, g2, g3⟩ := yp_of g
  rw [h1] at g1
  cases g1
  obtain ⟨A4, ex4, g4⟩ := yr_of _ _ _ _ _ _ g2
  have := d4 _ _ _ _ _ g4
  subst this
  rw [h3] at g3
  cases g3
  rfl
theorem yL_det {rp : zA → Nat → Nat → Option (zA × Nat × Nat)} {s : List Nat} (D : yPd rp s) : yBd (fun b A ex => yb rp s 4 (s.length + 1) A ex b) s := by
  intro b A ex A' ex' q hb h
  obtain ⟨d1, d2, d3, d4⟩ := yb_det D _ _ _ _ _ _ _ hb h
  exact ⟨d1, d2, d3, fun A2 ex2 A3 ex3 q2 g => d4 _ _ _ _ _ _ g⟩
theorem yL2_det (s : List Nat) : yBd (yL2 s) s := yL_det (rp := fun _ _ _ => none) (fun _ _ _ _ _ _ _ h => by cases h)
theorem yR1_det (s : List Nat) : yPd (yR1 s) s := yp_det (yL2_det s)
theorem yL1_det (s : List Nat) : yBd (yL1 s) s := yL_det (yR1_det s)
theorem yR0_det (s : List Nat) : yPd (yR0 s) s := yp_det (yL1_det s)
end
section
/-! THE CLASS'S LOOP over a script. -/
/-- the loop from its j-th step on -/
def yg (N j : Nat) (h : zH) : Option (Int32 × zH) := fC_run_11 N (N - j) 203 (Int32.ofInt (j : Int)) h
/-- behind a step -/
def yK (N j : Nat) (x : Int32) (h : zH) : Option (Int32 × zH) := cond (z_cmp .ne x (Int32.ofInt 0)) (yg N (j + 1) h) (some (Int32.ofInt 0, h))
/-- refused -/
def yF (B : yB) (h : zH) (nu : Nat → Int) (r : Option (Int32 × zH)) : Prop := ∃ h' A' nu', r = some (Int32.ofInt 0, h') ∧ yc B h' A' nu' ∧ zc_F h h' ∧ ∀ i, i < 2 → nu' i = nu i
/-- the numbers of the repeats below k, and what isn't the script's -/
def yfr (k : Nat) (nu nu' : Nat → Int) : Prop := ∀ i, (i < 2 ∨ (10 ≤ i ∧ i < 10 + k) ∨ (12 ≤ i ∧ i < 12 + k)) → nu' i = nu i
theorem yfr_t {k : Nat} {a b c : Nat → Int} (x : yfr k a b) (y : yfr k b c) : yfr k a c := fun i hi => (y i hi).trans (x i hi)
theorem yfr_n {k : Nat} {a b : Nat → Int} (x : yn a b) : yfr k a b := fun i hi => x i (by omega)
theorem yF_t {B : yB} {h h1 : zH} {nu nu1 : Nat → Int} {r : Option (Int32 × zH)} (F : zc_F h h1) (f : ∀ i, i < 2 → nu1 i = nu i) (o : yF B h1 nu1 r) : yF B h nu r := by
  obtain ⟨h', A', n', a, b, c, d⟩ := o
  exact ⟨h', A', n', a, b, zc_Ft F c, fun i hi => (d i hi).trans (f i hi)⟩
/-- how commands at depth k go: refused, or done after some steps -/
def yG (N : Nat) (B : yB) (h : zH) (nu : Nat → Int) (k : Nat) (r : Option (Int32 × zH)) (j κ p : Nat) (x : Option (zA × Nat × Nat)) : Prop :=
  (yF B h nu r ∧ ∀ A' ex' q, x = some (A', ex', q) → 1000000 < j + κ * (q - p)) ∨ (∃ A' ex' q, x = some (A', ex', q) ∧ ∃ m h' nu', m ≤ κ * (q - p) ∧ j + m ≤ 1000000 ∧ r = yg N (j + m) h' ∧ yc B h' A' nu' ∧ zc_F h h' ∧ nu' 6 = (q : Int) ∧ nu' 8 = (ex' : Int) ∧ ex' ≤ 200 ∧ nu' 9 = (k : Int) ∧ yfr k nu nu')
theorem yG_t {N : Nat} {B : yB} {h h1 : zH} {nu nu1 : Nat → Int} {k j m κ p p1 : Nat} {r : Option (Int32 × zH)} {x : Option (zA × Nat × Nat)} (F : zc_F h h1) (f : yfr k nu nu1) (hr : r = yg N (j + m) h1) (hm : m ≤ κ * (p1 - p)) (hp : p ≤ p1) (hq : ∀ A' ex' q, x = some (A', ex', q) → p1 ≤ q) (o : yG N B h1 nu1 k (yg N (j + m) h1) (j + m) κ p1 x) : yG N B h nu k r j κ p x := by
  have ar : ∀ q, p1 ≤ q → κ * (q - p) = κ * (q - p1) + κ * (p1 - p) := fun q h => by
    rw [← Nat.mul_add]
    congr 1
    omega
  rw [hr]
  rcases o with ⟨a, b⟩ | ⟨A', ex', q, a, m', h', n', b, c, d, e, g, r'⟩
  · refine Or.inl ⟨yF_t F (fun i hi => f i (Or.inl hi)) a, fun A' ex' q e => ?_⟩
    have h1 := b A' ex' q e
    have h2 := ar q (hq A' ex' q e)
    omega
  · have h2 := ar q (hq A' ex' q a)
    refine Or.inr ⟨A', ex', q, a, m + m', h', n', by omega, by omega, ?_, e, zc_Ft F g, r'.1, r'.2.1, r'.2.2.1, r'.2.2.2.1, yfr_t f r'.2.2.2.2⟩
    rw [d, Nat.add_assoc]
section YCL
variable {N : Nat} {B : yB} {h : zH} {A : zA} {nu : Nat → Int}
theorem yg_over (hN : 1000001 ≤ N) (Y : yc B h A nu) {j : Nat} (hj : j = 1000000) : yF B h nu (yg N j h) := by
  obtain ⟨h1, n1, e1, Y1, F1, r1⟩ := yc_fail (N := N) Y 1
  refine ⟨h1, A, n1, ?_, Y1, F1, fun i hi => r1 i (by omega) (by omega)⟩
  obtain ⟨g, hg⟩ : ∃ g, N - j = g + 1 := ⟨N - j - 1, by omega⟩
  unfold yg
  rw [hg, fC_run_11, show (1000000 : Int32) = Int32.ofInt 1000000 from rfl, zqo_ge _ _ (by omega) (by decide), decide_eq_true (by omega), cond_true, e1, b2]
  rfl
/-- a step, its token read -/
theorem yg_tok (hN : 1000001 ≤ N) (Y : yc B h A nu) {p k j : Nat} (h6 : nu 6 = (p : Int)) (hp : p ≤ (yW B).length) (h9 : nu 9 = (k : Int)) (hk : k ≤ 2) (hj : j < 1000000) : ∃ h1 nu1, yc B h1 A nu1 ∧ zc_F h h1 ∧ yk (yW B) (yt_s (yW B) p) nu nu1 ∧ (yt_q (yW B) (yt_s (yW B) p) = 0 → k = 0 → yg N j h = some (Int32.ofInt 1, h1)) ∧ (yt_q (yW B) (yt_s (yW B) p) = 4 → 0 < k → yg N j h = b2 (fC_endRound N 203 h1) (yK N j)) ∧ ((yt_q (yW B) (yt_s (yW B) p) ≠ 0 ∨ 0 < k) → (yt_q (yW B) (yt_s (yW B) p) ≠ 4 ∨ k = 0) → yg N j h = b2 (fC_runCommand N 203 h1) (yK N j)) := by
  have qb := yt_qb (yW B) (yt_s (yW B) p)
  obtain ⟨h1, n1, e1, Y1, F1, K1⟩ := yc_tok (N := N) (by omega) Y h6 hp
  have m9 : n1 9 = (k : Int) := (K1.2.2.2.2.2 9 (by omega)).trans h9
  refine ⟨h1, n1, Y1, F1, K1, ?_⟩
  obtain ⟨g, hg⟩ : ∃ g, N - j = g + 1 := ⟨N - j - 1, by omega⟩
  have hg2 : g = N - (j + 1) := by omega
  have s0 : yg N j h = b1 (fI h1 203 2 4) fun x7 => cond (z_cmp .ne x7 (Int32.ofInt 0)) (fC_run_37 N (fC_run_11 N g) 203 (Int32.ofInt (j : Int)) h1) (b1 (fI h1 203 2 9) fun x8 => cond (z_cmp .ne x8 (Int32.ofInt 0)) (fC_run_37 N (fC_run_11 N g) 203 (Int32.ofInt (j : Int)) h1) (some ((Int32.ofInt 1), h1))) := by
    unfold yg
    rw [hg, fC_run_11, show (1000000 : Int32) = Int32.ofInt 1000000 from rfl, zqo_ge _ _ (by omega) (by decide), decide_eq_false (by omega), cond_false, e1, b2]
  have s63 : fC_run_63 N (fC_run_11 N g) 203 (Int32.ofInt (j : Int)) = yK N j := by
    funext x h'
    unfold fC_run_63 yK yg
    rw [zh_inc, hg2]
  have s37 : fC_run_37 N (fC_run_11 N g) 203 (Int32.ofInt (j : Int)) h1 = cond (decide (yt_q (yW B) (yt_s (yW B) p) = 4 ∧ 0 < k)) (b2 (fC_endRound N 203 h1) (yK N j)) (b2 (fC_runCommand N 203 h1) (yK N j)) := by
    unfold fC_run_37 fC_run_59
    rw [yc_i Y1 4 (by decide), b1_s, K1.1, zqo_ne _ _ (by omega) (by decide), s63]
    by_cases e4 : yt_q (yW B) (yt_s (yW B) p) = 4
    · rw [decide_eq_true (show (yt_q (yW B) (yt_s (yW B) p) : Int) = 4 by omega), Bool.not_true, cond_false, yc_i Y1 9 (by decide), b1_s, m9, zqo_le _ _ (by omega) (by decide)]
      by_cases e9 : 0 < k
      · rw [decide_eq_false (show ¬ ((k : Int) ≤ 0) by omega), cond_false, decide_eq_true ⟨e4, e9⟩, cond_true]
      · rw [decide_eq_true (show (k : Int) ≤ 0 by omega), cond_true, decide_eq_false (fun x => e9 x.2), cond_false]
    · rw [decide_eq_false (show ¬ (yt_q (yW B) (yt_s (yW B) p) : Int) = 4 by omega), Bool.not_false, cond_true, decide_eq_false (fun x => e4 x.1), cond_false]
  rw [s0, yc_i Y1 4 (by decide), b1_s, K1.1, zqo_ne _ _ (by omega) (by decide), s37]
  by_cases e0 : yt_q (yW B) (yt_s (yW B) p) = 0
  · rw [decide_eq_true (show (yt_q (yW B) (yt_s (yW B) p) : Int) = 0 by omega), Bool.not_true, cond_false, yc_i Y1 9 (by decide), b1_s, m9, zqo_ne _ _ (by omega) (by decide)]
    by_cases e9 : k = 0
    · rw [decide_eq_true (show (k : Int) = 0 by omega), Bool.not_true, cond_false]
      exact ⟨fun _ _ => rfl, fun x => by omega, fun x => by omega⟩
    · rw [decide_eq_false (show ¬ (k : Int) = 0 by omega), Bool.not_false, cond_true, decide_eq_false (fun x => by omega), cond_false]
      exact ⟨fun _ x => absurd x e9, fun x => by omega, fun _ _ => rfl⟩
  · rw [decide_eq_false (show ¬ (yt_q (yW B) (yt_s (yW B) p) : Int) = 0 by omega), Bool.not_false, cond_true]
    by_cases e4 : yt_q (yW B) (yt_s (yW B) p) = 4 ∧ 0 < k
    · rw [decide_eq_true e4, cond_true]
      exact ⟨fun x => absurd x e0, fun _ _ => rfl, fun _ x => by omega⟩
    · rw [decide_eq_false e4, cond_false]
      exact ⟨fun x => absurd x e0, fun x y => absurd ⟨x, y⟩ e4, fun _ _ => rfl⟩
/-- a step that is refused -/
theorem yF_K {j : Nat} {r : Option (Int32 × zH)} (o : ∃ h' A' nu', r = some (Int32.ofInt 0, h') ∧ yc B h' A' nu' ∧ zc_F h h' ∧ ∀ i, i < 2 → nu' i = nu i) : yF B h nu (b2 r (yK N j)) := by
  obtain ⟨h', A', n', a, b, c, d⟩ := o
  refine ⟨h', A', n', ?_, b, c, d⟩
  rw [a, b2]
  rfl
theorem yK_1 {j : Nat} {r : Option (Int32 × zH)} {h' : zH} (e : r = some (Int32.ofInt 1, h')) : b2 r (yK N j) = yg N (j + 1) h' := by
  rw [e, b2]
  rfl
end YCL
/-- a repeat at depth k, from its opening on -/
def yRP (N : Nat) (B : yB) (k κ : Nat) (rp : zA → Nat → Nat → Option (zA × Nat × Nat)) : Prop := ∀ (h : zH) (A : zA) (nu : Nat → Int) (ex p j : Nat), yc B h A nu → nu 6 = (p : Int) → p ≤ (yW B).length → nu 8 = (ex : Int) → ex ≤ 200 → nu 9 = (k : Int) → j < 1000000 → yG N B h nu k (b2 (fC_openRepeat N 203 h) (yK N j)) j κ p (rp A ex p)
/-- commands at depth k, from the loop's j-th step on -/
def yBP (N : Nat) (B : yB) (k κ b : Nat) (bd : zA → Nat → Option (zA × Nat × Nat)) : Prop := ∀ (h : zH) (A : zA) (nu : Nat → Int) (ex j : Nat), yc B h A nu → nu 6 = (b : Int) → nu 8 = (ex : Int) → ex ≤ 200 → nu 9 = (k : Int) → j ≤ 1000000 → yG N B h nu k (yg N j h) j κ b (bd A ex)
theorem yb_run {N : Nat} {B : yB} {k κ cl : Nat} {rp : zA → Nat → Nat → Option (zA × Nat × Nat)} (hN : 1000001 ≤ N) (hk : k ≤ 2) (hκ : 1 ≤ κ) (hcl : (cl = 0 ∧ k = 0) ∨ (cl = 4 ∧ 1 ≤ k)) (RP : yRP N B k κ rp) (D : yPd rp (yW B)) : ∀ (c : Nat) (h : zH) (A : zA) (nu : Nat → Int) (ex p j : Nat), yc B h A nu → nu 6 = (p : Int) → p ≤ (yW B).length → (yW B).length < p + c → nu 8 = (ex : Int) → ex ≤ 200 → nu 9 = (k : Int) → j ≤ 1000000 → yG N B h nu k (yg N j h) j κ p (yb rp (yW B) cl c A ex p) := by
  intro c
  induction c with
  | zero => intro h A nu ex p j Y h6 hp hc; omega
  | succ c ih =>
    intro h A nu ex p j Y h6 hp hc h8 hx h9 hj
    by_cases e0 : yt_q (yW B) (yt_s (yW B) p) = cl
    · refine Or.inr ⟨A, ex, p, by rw [yb, if_pos e0], 0, h, nu, Nat.zero_le _, by omega, by rw [Nat.add_zero], Y, zc_Fr h, h6, h8, hx, h9, fun _ _ => rfl⟩
    · by_cases ej : j = 1000000
      · refine Or.inl ⟨yg_over hN Y ej, fun A' ex' q e => ?_⟩
        have := yb_lt D hp e e0
        have : κ * 1 ≤ κ * (q - p) := Nat.mul_le_mul_left _ (by omega)
        omega
      · obtain ⟨h1, n1, Y1, F1, K1, _, g2, g3⟩ := yg_tok hN Y h6 hp h9 hk (show j < 1000000 by omega)
        have qb := yt_qb (yW B) (yt_s (yW B) p)
        have y1 : yn nu n1 := fun i hi => K1.2.2.2.2.2 i (by omega)
        have m8 : n1 8 = (ex : Int) := (y1 8 (by omega)).trans h8
        have m9 : n1 9 = (k : Int) := (y1 9 (by omega)).trans h9
        by_cases e1 : yt_q (yW B) (yt_s (yW B) p) = 1
        · have tb := yt_tokb hp (show yt_q (yW B) (yt_s (yW B) p) ≠ 0 by omega)
          have sb := yt_sb hp
          have eb := yt_eb sb.2
          rw [g3 (Or.inl (by omega)) (Or.inl (by omega)), yc_cmd (by omega) Y1 (K1.1.trans (by omega)) K1.2.1 K1.2.2.1 eb.1 eb.2.1]
          have wb : ym_w (yW B) p ≤ 12 := yt_cmdb _
          change yG N B h nu k (b2 (fC_runCommand_27 N 203 (if ym_w (yW B) p < 12 then some (1000000 + ym_w (yW B) p) else none) h1) (yK N j)) j κ p (yb rp (yW B) cl (c + 1) A ex p)
          rw [yb, if_neg e0, if_pos e1]
          by_cases w11 : ym_w (yW B) p = 11
          · rw [if_pos w11, if_pos (by omega), w11]
            have op : b2 (fC_runCommand_27 N 203 (some (1000000 + 11)) h1) (yK N j) = b2 (fC_openRepeat N 203 h1) (yK N j) := by
              rw [show (1000000 + 11 : Nat) = 1000011 from rfl, yc_rep27]
              rcases yc_open (N := N) (by omega) Y1 K1.2.2.1 tb.2 m9 hk with ⟨_, h2, n2, e2, _⟩ | ⟨_, t, b, _, h2, n2, e2, _⟩
              · rw [e2, b2]
                rfl
              · rw [e2, b2]
                rfl
            rw [op]
            have pl : p ≤ yt_e (yW B) (yt_s (yW B) p) := by omega
            rcases RP h1 A n1 ex (yt_e (yW B) (yt_s (yW B) p)) j Y1 K1.2.2.1 tb.2 m8 hx m9 (by omega) with ⟨f1, f2⟩ | ⟨A2, ex2, e, f1, m, h2, n2, q1, q2, q3, Y2, F2, q6, q8, qx, q9, qf⟩
            · refine Or.inl ⟨yF_t F1 (fun i hi => y1 i (by omega)) f1, fun A' ex' q e => ?_⟩
              cases e5 : rp A ex (yt_e (yW B) (yt_s (yW B) p)) with
              | none => rw [e5] at e; cases e
              | some r =>
                obtain ⟨A3, ex3, q3⟩ := r
                rw [e5] at e
                change yb rp (yW B) cl c A3 ex3 q3 = _ at e
                have d := D _ _ _ _ _ _ tb.2 e5
                have d2 := (yb_det D _ _ _ _ _ _ _ d.2.1 e).1
                have k1 := f2 _ _ _ e5
                have k2 : κ * (q3 - yt_e (yW B) (yt_s (yW B) p)) ≤ κ * (q - p) := Nat.mul_le_mul_left _ (by omega)
                omega
            · have d := D _ _ _ _ _ _ tb.2 f1
              rw [f1]
              show yG N B h nu k _ j κ p (yb rp (yW B) cl c A2 ex2 e)
              have k2 : κ * (e - yt_e (yW B) (yt_s (yW B) p)) ≤ κ * (e - p) := Nat.mul_le_mul_left _ (by omega)
              exact yG_t (zc_Ft F1 F2) (yfr_t (yfr_n y1) qf) q3 (by omega) (by omega) (fun A' ex' q x => (yb_det D _ _ _ _ _ _ _ d.2.1 x).1) (ih h2 A2 n2 ex2 e (j + m) Y2 q6 d.2.1 (by omega) q8 qx q9 q2)
          · rw [if_neg w11]
            by_cases w12 : ym_w (yW B) p = 12 ∨ 200 ≤ ex
            · rw [if_pos w12]
              refine Or.inl ⟨yF_t F1 (fun i hi => y1 i (by omega)) (yF_K ?_), fun A' ex' q e => by cases e⟩
              by_cases w : ym_w (yW B) p < 12
              · rw [if_pos w]
                obtain ⟨h2, n2, e2, Y2, F2, y2⟩ := yc_many (N := N) Y1 (i := ym_w (yW B) p) m8 (by omega) (by omega)
                exact ⟨h2, A, n2, e2, Y2, F2, fun i hi => y2 i (by omega)⟩
              · rw [if_neg w]
                obtain ⟨h2, n2, e2, Y2, F2, y2⟩ := yc_nocmd (N := N) Y1
                exact ⟨h2, A, n2, e2, Y2, F2, fun i hi => y2 i (by omega)⟩
            · rw [if_neg w12, if_pos (by omega)]
              obtain ⟨h2, Y2, F2, o⟩ := yc_run1 (N := N) (by omega) Y1 (p := yt_e (yW B) (yt_s (yW B) p)) (i := ym_w (yW B) p) K1.2.2.1 tb.2 m8 (by omega) (by omega)
              have n8 : ∀ i, i < 2 ∨ 9 < i → zc_u n1 8 ((ex : Int) + 1) i = nu i := fun i hi => (zc_un _ _ (by omega)).trans (y1 i (by omega))
              rcases o with ⟨o1, h3, A3, n3, o2, Y3, F3, y3⟩ | ⟨A3, e, o1, h3, n3, o2, Y3, F3, y3, o6⟩
              · rw [o1]
                refine Or.inl ⟨yF_K ⟨h3, A3, n3, o2, Y3, zc_Ft F1 (zc_Ft F2 F3), fun i hi => (y3 i (by omega)).trans (n8 i (by omega))⟩, fun A' ex' q e => by cases e⟩
              · have d := yx_end tb.2 o1
                rw [o1, yK_1 o2]
                show yG N B h nu k _ j κ p (yb rp (yW B) cl c A3 (ex + 1) e)
                have k2 : κ * 1 ≤ κ * (e - p) := Nat.mul_le_mul_left _ (by omega)
                refine yG_t (m := 1) (zc_Ft F1 (zc_Ft F2 F3)) (fun i hi => (y3 i (by omega)).trans (n8 i (by omega))) rfl (by omega) (by omega) (fun A' ex' q x => (yb_det D _ _ _ _ _ _ _ d.2.1 x).1) (ih h3 A3 n3 (ex + 1) e (j + 1) Y3 o6 d.2.1 (by omega) ?_ (by omega) ?_ (by omega))
                · exact (y3 8 (by omega)).trans (zc_us _ _ _)
                · exact (y3 9 (by omega)).trans ((zc_un _ _ (by decide)).trans m9)
        · rw [yb, if_neg e0, if_neg e1, g3 (by omega) (by omega)]
          obtain ⟨h2, n2, e2, Y2, F2, y2⟩ := yc_noword (N := N) Y1 K1.1 qb e1
          exact Or.inl ⟨yF_K ⟨h2, A, n2, e2, Y2, zc_Ft F1 F2, fun i hi => (y2 i (by omega)).trans (y1 i (by omega))⟩, fun A' ex' q e => by cases e⟩
/-- rounds, from the first one's start on -/
theorem yr_run {N : Nat} {B : yB} {k κ b q0 : Nat} {bd : zA → Nat → Option (zA × Nat × Nat)} (hN : 1000001 ≤ N) (hk : k < 2) (BP : yBP N B (k + 1) κ b bd) (D : ∀ A ex A' ex' q, bd A ex = some (A', ex', q) → q = q0 ∧ b ≤ q0 ∧ q0 ≤ (yW B).length ∧ yt_q (yW B) (yt_s (yW B) q0) = 4) : ∀ (t : Nat) (h : zH) (A : zA) (nu : Nat → Int) (ex j : Nat), yc B h A nu → nu 6 = (b : Int) → nu 8 = (ex : Int) → ex ≤ 200 → nu 9 = (k : Int) + 1 → nu (10 + k) = (b : Int) → nu (12 + k) = (t : Int) + 1 → t < 20 → j ≤ 1000000 → (yF B h nu (yg N j h) ∧ ∀ A' ex' e, yq (yW B) (yr bd (t + 1) A ex) = some (A', ex', e) → 1000000 < j + (t + 1) * (κ * (q0 - b) + 1)) ∨ (∃ A' ex' e, yq (yW B) (yr bd (t + 1) A ex) = some (A', ex', e) ∧ ∃ m h' nu', m ≤ (t + 1) * (κ * (q0 - b) + 1) ∧ j + m ≤ 1000000 ∧ yg N j h = yg N (j + m) h' ∧ yc B h' A' nu' ∧ zc_F h h' ∧ nu' 6 = (e : Int) ∧ nu' 8 = (ex' : Int) ∧ ex' ≤ 200 ∧ nu' 9 = (k : Int) ∧ yfr k nu nu') := by
  intro t
  induction t with
  | zero =>
    intro h A nu ex j Y h6 h8 hx h9 h10 h12 ht hj
    have er : yr bd (0 + 1) A ex = bd A ex := by
      show (bd A ex).bind _ = _
      cases bd A ex <;> rfl
    rw [er, Nat.zero_add, Nat.one_mul]
    rcases BP h A nu ex j Y h6 h8 hx h9 hj with ⟨f1, f2⟩ | ⟨A1, ex1, q, f1, m, h1, n1, q1, q2, q3, Y1, F1, q6, q8, qx, q9, qf⟩
    · refine Or.inl ⟨f1, fun A' ex' e he => ?_⟩
      obtain ⟨q, r1, r2⟩ := yq_of he
      have := f2 _ _ _ r1
      have := (D _ _ _ _ _ r1).1
      subst this
      omega
    · obtain ⟨d1, d2, d3, d4⟩ := D _ _ _ _ _ f1
      subst d1
      rw [f1]
      have tb := yt_tokb d3 (show yt_q (yW B) (yt_s (yW B) q) ≠ 0 by omega)
      by_cases ej : j + m = 1000000
      · rw [q3]
        exact Or.inl ⟨yF_t F1 (fun i hi => qf i (Or.inl hi)) (yg_over hN Y1 ej), fun A' ex' e he => by omega⟩
      · obtain ⟨h2, n2, Y2, F2, K2, _, g2, _⟩ := yg_tok hN Y1 q6 d3 q9 (by omega) (show j + m < 1000000 by omega)
        have y2 : yn n1 n2 := fun i hi => K2.2.2.2.2.2 i (by omega)
        rw [q3, g2 d4 (by omega)]
        rcases yc_last (N := N) (by omega) Y2 K2.2.2.1 tb.2 ((y2 9 (by omega)).trans q9) hk ((y2 _ (by omega)).trans ((qf _ (by omega)).trans h12)) with ⟨e, s1, h3, n3, e3, Y3, F3, p6, p9, p⟩ | ⟨s1, h3, n3, e3, Y3, F3, p⟩
        · refine Or.inr ⟨A1, ex1, e, ?_, m + 1, h3, n3, by omega, by omega, yK_1 e3, Y3, zc_Ft F1 (zc_Ft F2 F3), p6, ?_, qx, p9, fun i hi => ?_⟩
          · show (ym_sem _ _).bind _ = _
            rw [s1]
            rfl
          · exact (p 8 (by omega) (by omega) (by omega)).trans ((y2 8 (by omega)).trans q8)
          · exact (p i (by omega) (by omega) (by omega)).trans ((y2 i (by omega)).trans (qf i (by omega)))
        · refine Or.inl ⟨yF_K ⟨h3, A1, n3, e3, Y3, zc_Ft F1 (zc_Ft F2 F3), fun i hi => (p i hi).trans ((y2 i (by omega)).trans (qf i (Or.inl hi)))⟩, fun A' ex' e he => ?_⟩
          change (ym_sem _ _).bind _ = _ at he
          rw [s1] at he
          cases he
  | succ t ih =>
    intro h A nu ex j Y h6 h8 hx h9 h10 h12 ht hj
    have ar : (t + 1 + 1) * (κ * (q0 - b) + 1) = (t + 1) * (κ * (q0 - b) + 1) + (κ * (q0 - b) + 1) := Nat.succ_mul _ _
    rcases BP h A nu ex j Y h6 h8 hx h9 hj with ⟨f1, f2⟩ | ⟨A1, ex1, q, f1, m, h1, n1, q1, q2, q3, Y1, F1, q6, q8, qx, q9, qf⟩
    · refine Or.inl ⟨f1, fun A' ex' e he => ?_⟩
      obtain ⟨q, r1, r2⟩ := yq_of he
      rw [yr] at r1
      cases e5 : bd A ex with
      | none => rw [e5] at r1; cases r1
      | some r =>
        obtain ⟨A3, ex3, q3⟩ := r
        have k1 := f2 _ _ _ e5
        have k2 := (D _ _ _ _ _ e5).1
        rw [k2] at k1
        omega
    · obtain ⟨d1, d2, d3, d4⟩ := D _ _ _ _ _ f1
      subst d1
      have er : yr bd (t + 1 + 1) A ex = yr bd (t + 1) A1 ex1 := by
        show (bd A ex).bind (fun r => if t + 1 = 0 then some r else yr bd (t + 1) r.1 r.2.1) = _
        rw [f1]
        show (if t + 1 = 0 then some (A1, ex1, q) else yr bd (t + 1) A1 ex1) = _
        rw [if_neg (Nat.succ_ne_zero t)]
      rw [er, ar]
      have tb := yt_tokb d3 (show yt_q (yW B) (yt_s (yW B) q) ≠ 0 by omega)
      by_cases ej : j + m = 1000000
      · rw [q3]
        exact Or.inl ⟨yF_t F1 (fun i hi => qf i (Or.inl hi)) (yg_over hN Y1 ej), fun A' ex' e he => by omega⟩
      · obtain ⟨h2, n2, Y2, F2, K2, _, g2, _⟩ := yg_tok hN Y1 q6 d3 q9 (by omega) (show j + m < 1000000 by omega)
        have y2 : yn n1 n2 := fun i hi => K2.2.2.2.2.2 i (by omega)
        obtain ⟨h3, n3, e3, Y3, F3, p6, p12, p⟩ := yc_again (N := N) Y2 (k := k) (b := b) (t := t + 2) ((y2 9 (by omega)).trans q9) hk ((y2 _ (by omega)).trans ((qf _ (by omega)).trans h10)) ((y2 _ (by omega)).trans ((qf _ (by omega)).trans (h12.trans (by omega)))) (by omega)
        have hr : yg N j h = yg N (j + m + 1) h3 := by rw [q3, g2 d4 (by omega), yK_1 e3]
        have fr : yfr k nu n3 := fun i hi => (p i (by omega) (by omega)).trans ((y2 i (by omega)).trans (qf i (by omega)))
        have FF := zc_Ft F1 (zc_Ft F2 F3)
        rcases ih h3 A1 n3 ex1 (j + m + 1) Y3 p6 ((p 8 (by omega) (by omega)).trans ((y2 8 (by omega)).trans q8)) qx ((p 9 (by omega) (by omega)).trans ((y2 9 (by omega)).trans q9)) ((p _ (by omega) (by omega)).trans ((y2 _ (by omega)).trans ((qf _ (by omega)).trans h10))) (p12.trans (by omega)) (by omega) (by omega) with ⟨i1, i2⟩ | ⟨A', ex', e, i1, m', h', n', i2, i3, i4, i5, i6, i7, i8, i9, i10, i11⟩
        · rw [hr]
          refine Or.inl ⟨yF_t FF (fun i hi => fr i (Or.inl hi)) i1, fun A' ex' e he => ?_⟩
          have := i2 A' ex' e he
          omega
        · rw [hr]
          refine Or.inr ⟨A', ex', e, i1, m + 1 + m', h', n', by omega, by omega, ?_, i5, zc_Ft FF i6, i7, i8, i9, i10, yfr_t fr i11⟩
          rw [i4]
          congr 1
          omega
theorem yp_arith {κ t a c : Nat} (hκ : 1 ≤ κ) (ht : t ≤ 20) (h : a + 4 ≤ c) : 1 + t * (κ * a + 1) ≤ 20 * κ * c := by
  have h1 : t * (κ * a + 1) ≤ 20 * (κ * a + 1) := Nat.mul_le_mul_right _ ht
  have h2 : κ * (a + 4) ≤ κ * c := Nat.mul_le_mul_left _ h
  rw [Nat.mul_add] at h2
  rw [Nat.mul_assoc]
  omega
/-- a repeat -/
theorem yp_run {N : Nat} {B : yB} {k κ : Nat} {bd : Nat → zA → Nat → Option (zA × Nat × Nat)} (hN : 1000001 ≤ N) (hk : k < 2) (hκ : 1 ≤ κ) (BP : ∀ b, b ≤ (yW B).length → yBP N B (k + 1) κ b (bd b)) (D : yBd bd (yW B)) : yRP N B k (20 * κ) (yp bd (yW B)) := by
  intro h A nu ex p j Y h6 hp h8 hx h9 hj
  rcases yc_open (N := N) (by omega) Y h6 hp h9 (by omega) with ⟨o1, h1, n1, e1, Y1, F1, y1⟩ | ⟨_, t, b, o1, h1, n1, e1, Y1, F1, p6, p8, p9, p10, p12, pr⟩
  · have on : ym_rep (yW B) p = none := by
      rcases o1 with o1 | o1
      · omega
      · exact o1
    refine Or.inl ⟨yF_K ⟨h1, A, n1, e1, Y1, F1, fun i hi => y1 i (by omega)⟩, fun A' ex' q e => ?_⟩
    obtain ⟨t, b, q, g1, _⟩ := yp_of e
    rw [on] at g1
    cases g1
  · obtain ⟨r1, r2, r3, r4⟩ := ym_repb hp o1
    obtain ⟨t', rfl⟩ : ∃ t', t = t' + 1 := ⟨t - 1, by omega⟩
    have eq : yp bd (yW B) A ex p = yq (yW B) (yr (bd b) (t' + 1) A ex) := by
      unfold yp
      rw [o1]
      rfl
    have fr : yfr k nu n1 := fun i hi => pr i (by omega) (by omega) (by omega)
    have ends : ∀ A' ex' e, yq (yW B) (yr (bd b) (t' + 1) A ex) = some (A', ex', e) → ∃ q, (∃ A1 ex1 A2 ex2, bd b A1 ex1 = some (A2, ex2, q)) ∧ (q - b) + 4 ≤ e - p := by
      intro A' ex' e he
      obtain ⟨q, a1, a2⟩ := yq_of he
      obtain ⟨A1, ex1, a3⟩ := yr_of _ _ _ _ _ _ a1
      obtain ⟨d1, d2, d3, _⟩ := D _ _ _ _ _ _ r4 a3
      have tb := yt_tokb d2 (show yt_q (yW B) (yt_s (yW B) q) ≠ 0 by omega)
      obtain ⟨_, m2, m3, m4⟩ := ym_semb tb.2 a2
      exact ⟨q, ⟨A1, ex1, _, _, a3⟩, by omega⟩
    obtain ⟨q0, D0⟩ : ∃ q0, ∀ A ex A' ex' q, bd b A ex = some (A', ex', q) → q = q0 ∧ b ≤ q0 ∧ q0 ≤ (yW B).length ∧ yt_q (yW B) (yt_s (yW B) q0) = 4 := by
      by_cases ex0 : ∃ A1 ex1 A2 ex2 q, bd b A1 ex1 = some (A2, ex2, q)
      · obtain ⟨A1, ex1, A2, ex2, q, a⟩ := ex0
        obtain ⟨d1, d2, d3, d4⟩ := D _ _ _ _ _ _ r4 a
        exact ⟨q, fun A3 ex3 A4 ex4 q' a' => ⟨d4 _ _ _ _ _ a', d1, d2, d3⟩⟩
      · exact ⟨b, fun A3 ex3 A4 ex4 q' a' => absurd ⟨A3, ex3, A4, ex4, q', a'⟩ ex0⟩
    rw [eq, yK_1 e1]
    rcases yr_run hN hk (BP b r4) D0 t' h1 A n1 ex (j + 1) Y1 p6 (p8.trans h8) hx p9 p10 (p12.trans (by omega)) (by omega) (by omega) with ⟨i1, i2⟩ | ⟨A', ex', e, i1, m', h', n', i2, i3, i4, i5, i6, i7, i8, i9, i10, i11⟩
    · refine Or.inl ⟨yF_t F1 (fun i hi => fr i (Or.inl hi)) i1, fun A' ex' e he => ?_⟩
      have k1 := i2 A' ex' e he
      obtain ⟨q, ⟨A1, ex1, A2, ex2, a3⟩, k2⟩ := ends A' ex' e he
      have := (D0 _ _ _ _ _ a3).1
      subst this
      have := yp_arith hκ r2 k2
      omega
    · obtain ⟨q, ⟨A1, ex1, A2, ex2, a3⟩, k2⟩ := ends A' ex' e i1
      have := (D0 _ _ _ _ _ a3).1
      subst this
      have := yp_arith hκ r2 k2
      refine Or.inr ⟨A', ex', e, i1, 1 + m', h', n', by omega, by omega, ?_, i5, zc_Ft F1 i6, i7, i8, i9, i10, yfr_t fr i11⟩
      rw [i4, Nat.add_assoc]
end
section
/-! THE CLASS'S runScript. -/
section YCM
variable {N : Nat} {B : yB} {h : zH} {A : zA} {nu : Nat → Int}
theorem yc_head (hN : 3000 ≤ N) (Y : yc B h A nu) : (yz_h (yW B) = none ∧ ∃ h' A' nu', fC_runHead N 203 h = some (Int32.ofInt 0, h') ∧ yc B h' A' nu' ∧ zc_F h h' ∧ ∀ i, i < 2 → nu' i = nu i) ∨ (∃ A' e, yz_h (yW B) = some (A', e) ∧ e ≤ (yW B).length ∧ ∃ h' nu', fC_runHead N 203 h = some (Int32.ofInt 1, h') ∧ yc B h' A' nu' ∧ zc_F h h' ∧ nu' 6 = (e : Int) ∧ nu' 8 = 0 ∧ nu' 9 = 0 ∧ ∀ i, i < 2 → nu' i = nu i) := by
  obtain ⟨h1, e1, Y1, F1⟩ := yc_s Y 2 (by decide) 0
  obtain ⟨h2, e2, Y2, F2⟩ := yc_s Y1 3 (by decide) (-1)
  obtain ⟨h3, e3, Y3, F3⟩ := yc_s Y2 6 (by decide) 0
  obtain ⟨h4, e4, Y4, F4⟩ := yc_s Y3 8 (by decide) 0
  obtain ⟨h5, e5, Y5, F5⟩ := yc_s Y4 9 (by decide) 0
  have FF := zc_Ft F1 (zc_Ft F2 (zc_Ft F3 (zc_Ft F4 F5)))
  generalize hn : zc_u (zc_u (zc_u (zc_u (zc_u nu 2 0) 3 (-1)) 6 0) 8 0) 9 0 = n5 at Y5
  have n6 : n5 6 = ((0 : Nat) : Int) := by
    rw [← hn, zc_un _ _ (show (6 : Nat) ≠ 9 by decide), zc_un _ _ (show (6 : Nat) ≠ 8 by decide), zc_us]
    rfl
  have n8 : n5 8 = 0 := by rw [← hn, zc_un _ _ (show (8 : Nat) ≠ 9 by decide), zc_us]
  have n9 : n5 9 = 0 := by rw [← hn, zc_us]
  have n01 : ∀ i, i < 2 → n5 i = nu i := fun i hi => by rw [← hn, zc_un _ _ (by omega), zc_un _ _ (by omega), zc_un _ _ (by omega), zc_un _ _ (by omega), zc_un _ _ (by omega)]
  obtain ⟨h6, m6, e6, Y6, F6, K6⟩ := yc_tok (N := N) (by omega) Y5 n6 (Nat.zero_le _)
  have y6 : yn n5 m6 := fun i hi => K6.2.2.2.2.2 i (by omega)
  have F06 := zc_Ft FF F6
  have qb := yt_qb (yW B) (yt_s (yW B) 0)
  have sb := yt_sb (Nat.zero_le (yW B).length)
  have eb := yt_eb sb.2
  obtain ⟨h7, n7, e7, Y7, F7, r7⟩ := yc_fail (N := N) Y6 1
  have f57 : fC_runHead_57 N 203 h6 = some (Int32.ofInt 0, h7) := by
    unfold fC_runHead_57
    rw [e7, b2]
    rfl
  have fx : ∀ i, i < 2 → n7 i = nu i := fun i hi => (r7 i (by omega) (by omega)).trans ((y6 i (by omega)).trans (n01 i hi))
  unfold fC_runHead
  rw [yc_T Y, cond_true, e1, b1_s, e2, b1_s, e3, b1_s, e4, b1_s, e5, b1_s, e6, b2, yc_i Y6 4 (by decide), b1_s, K6.1, zqo_ne _ _ (by omega) (by decide)]
  by_cases q1 : yt_q (yW B) (yt_s (yW B) 0) = 1
  · rw [decide_eq_true (by omega), Bool.not_true, cond_false, yc_r0 Y6, b1_s, yc_i Y6 5 (by decide), b1_s, K6.2.1, yc_i Y6 6 (by decide), b1_s, K6.2.2.1, yS_eq (yc_W Y6) (by omega) (b := yt_letters) yS_45 (by decide) eb.1 eb.2.1, b2]
    by_cases q2 : zw_p (yW B) (yt_s (yW B) 0) (yt_e (yW B) (yt_s (yW B) 0)) = yt_letters
    · rw [decide_eq_true q2, cond_true, show z_cmp .ne (Int32.ofInt 1) (Int32.ofInt 0) = true from rfl, cond_true]
      have ez : yz_h (yW B) = (ym_num (yW B) (yt_e (yW B) (yt_s (yW B) 0)) 2 9).bind fun n => (ym_sem (yW B) n.2).bind fun e => some ((n.1, [], []), e) := if_pos ⟨q1, q2⟩
      rw [ez]
      rcases yc_num (N := N) (by omega) Y6 K6.2.2.1 eb.2.1 2 9 (by decide) (by decide) with ⟨v, e, m1, h8, k8, e8, Y8, F8, y8, p8, v8⟩ | ⟨m1, h8, k8, e8, Y8, F8, y8⟩
      · obtain ⟨_, _, _, pe, el, vl0, vl, _⟩ := ym_numb eb.2.1 m1
        rw [e8, b2, show z_cmp .eq (Int32.ofInt 1) (Int32.ofInt 0) = false from rfl, cond_false]
        rcases yc_sem (N := N) (by omega) Y8 p8 el with ⟨e', m2, h9, k9, e9, Y9, F9, y9, p9, v9⟩ | ⟨m2, h9, k9, e9, Y9, F9, y9⟩
        · obtain ⟨_, _, _, el'⟩ := ym_semb el m2
          obtain ⟨S, H, hS, cl⟩ := yc_st Y9
          obtain ⟨h10, e10, H10, F10⟩ := zs_clear (N := N) H (L' := v) (by omega)
          obtain ⟨Y10, G10⟩ := cl h10 _ _ _ _ H10 F10 ⟨by show 2 ≤ v ∧ v ≤ 9; omega, Nat.zero_le _, (fun u hu => by cases hu), Nat.zero_le _, (fun w hw => by cases hw)⟩
          have yy := yn_t y6 (yn_t y8 y9)
          refine Or.inr ⟨(v, [], []), e', ?_, el', h10, k9, ?_, Y10, zc_Ft F06 (zc_Ft F8 (zc_Ft F9 G10)), p9, (yy 8 (by omega)).trans n8, (yy 9 (by omega)).trans n9, fun i hi => (yy i (by omega)).trans (n01 i hi)⟩
          · rw [m1]
            show (ym_sem (yW B) e).bind _ = _
            rw [m2]
            rfl
          · rw [e9, b2, show z_cmp .ne (Int32.ofInt 1) (Int32.ofInt 0) = true from rfl, cond_true, yc_r1 Y9, b1_s, yc_i Y9 7 (by decide), b1_s, v9, v8, e10, b2]
        · refine Or.inl ⟨?_, h9, A, k9, ?_, Y9, zc_Ft F06 (zc_Ft F8 F9), fun i hi => (yn_t y6 (yn_t y8 y9) i (by omega)).trans (n01 i hi)⟩
          · rw [m1]
            show (ym_sem (yW B) e).bind _ = _
            rw [m2]
            rfl
          · rw [e9, b2, show z_cmp .ne (Int32.ofInt 0) (Int32.ofInt 0) = false from rfl, cond_false]
            rfl
      · refine Or.inl ⟨?_, h8, A, k8, ?_, Y8, zc_Ft F06 F8, fun i hi => (yn_t y6 y8 i (by omega)).trans (n01 i hi)⟩
        · rw [m1]
          rfl
        · rw [e8, b2, show z_cmp .eq (Int32.ofInt 0) (Int32.ofInt 0) = true from rfl, cond_true]
          rfl
    · refine Or.inl ⟨if_neg (fun x => q2 x.2), h7, A, n7, ?_, Y7, zc_Ft F06 F7, fx⟩
      rw [decide_eq_false q2, cond_false, show z_cmp .ne (Int32.ofInt 0) (Int32.ofInt 0) = false from rfl, cond_false]
      exact f57
  · refine Or.inl ⟨if_neg (fun x => q1 x.1), h7, A, n7, ?_, Y7, zc_Ft F06 F7, fx⟩
    rw [decide_eq_false (by omega), Bool.not_false, cond_true]
    exact f57
theorem yRP_2 : yRP N B 2 1 (fun _ _ _ => none) := by
  intro h A nu ex p j Y h6 hp h8 hx h9 hj
  obtain ⟨h1, n1, e1, Y1, F1, r1⟩ := yc_fail (N := N) Y 4
  refine Or.inl ⟨yF_K ⟨h1, A, n1, ?_, Y1, F1, fun i hi => r1 i (by omega) (by omega)⟩, fun A' ex' q e => by cases e⟩
  unfold fC_openRepeat
  rw [yc_T Y, cond_true, yc_i Y 9 (by decide), b1_s, h9, zqo_lt _ _ (by omega) (by decide), decide_eq_false (by omega), cond_false, b1_s, yc_r10 Y, b1_s, yc_n10 Y, b1_s, zqo_ge _ _ (by omega) (by decide), decide_eq_true (by omega), cond_true]
  unfold fC_openRepeat_31
  rw [e1, b2]
  rfl
theorem yBP_of {k κ : Nat} {rp : zA → Nat → Nat → Option (zA × Nat × Nat)} (hN : 1000001 ≤ N) (hk : 1 ≤ k ∧ k ≤ 2) (hκ : 1 ≤ κ) (RP : yRP N B k κ rp) (D : yPd rp (yW B)) (b : Nat) (hb : b ≤ (yW B).length) : yBP N B k κ b (fun A ex => yb rp (yW B) 4 ((yW B).length + 1) A ex b) := fun h A nu ex j Y h6 h8 hx h9 hj => yb_run hN hk.2 hκ (Or.inr ⟨rfl, hk.1⟩) RP D _ h A nu ex b j Y h6 hb (by omega) h8 hx h9 hj
/-- all commands behind the head -/
theorem yL_run (hN : 1000001 ≤ N) (Y : yc B h A nu) {p : Nat} (h6 : nu 6 = (p : Int)) (hp : p ≤ (yW B).length) (h8 : nu 8 = 0) (h9 : nu 9 = 0) : (yL0 (yW B) A p = none ∧ yF B h nu (yg N 0 h)) ∨ (∃ x, yL0 (yW B) A p = some x ∧ ∃ h' nu', yg N 0 h = some (Int32.ofInt 1, h') ∧ yc B h' x.1 nu' ∧ zc_F h h' ∧ ∀ i, i < 2 → nu' i = nu i) := by
  have l6 := (yc_W Y).2.2.2.1
  have P2 := yBP_of (k := 2) (κ := 1) (rp := fun _ _ _ => none) (N := N) (B := B) hN (by decide) (by decide) yRP_2 (fun _ _ _ _ _ _ _ h => by cases h)
  have R1 : yRP N B 1 20 (yR1 (yW B)) := yp_run (κ := 1) hN (by decide) (by decide) P2 (yL2_det _)
  have P1 := yBP_of (k := 1) (κ := 20) (N := N) (B := B) hN (by decide) (by decide) R1 (yR1_det _)
  have R0 : yRP N B 0 400 (yR0 (yW B)) := yp_run (κ := 20) hN (by decide) (by decide) P1 (yL1_det _)
  have o := yb_run (cl := 0) hN (Nat.zero_le 2) (show 1 ≤ 400 by decide) (Or.inl ⟨rfl, rfl⟩) R0 (yR0_det _) ((yW B).length + 1) h A nu 0 p 0 Y h6 hp (by omega) h8 (by decide) h9 (by decide)
  change yG N B h nu 0 (yg N 0 h) 0 400 p (yL0 (yW B) A p) at o
  rcases o with ⟨f1, f2⟩ | ⟨A', ex', q, f1, m, h1, n1, q1, q2, q3, Y1, F1, q6, q8, qx, q9, qf⟩
  · refine Or.inl ⟨?_, f1⟩
    cases e : yL0 (yW B) A p with
    | none => rfl
    | some r =>
      obtain ⟨A', ex', q⟩ := r
      have d := (yb_det (yR0_det _) _ _ _ _ _ _ _ hp e).2.1
      have := f2 _ _ _ e
      omega
  · obtain ⟨d1, d2, d3, _⟩ := yb_det (yR0_det _) _ _ _ _ _ _ _ hp f1
    obtain ⟨h2, n2, Y2, F2, K2, g1, _, _⟩ := yg_tok hN Y1 q6 d2 q9 (by decide) (show 0 + m < 1000000 by omega)
    exact Or.inr ⟨(A', ex', q), f1, h2, n2, by rw [q3, g1 d3 rfl], Y2, zc_Ft F1 F2, fun i hi => (K2.2.2.2.2.2 i (by omega)).trans (qf i (Or.inl hi))⟩
theorem yc_run (hN : 1000001 ≤ N) (Y : yc B h A nu) : (yz (yW B) = none ∧ yF B h nu (fC_run N 203 h)) ∨ (∃ A', yz (yW B) = some A' ∧ ∃ h' nu', fC_run N 203 h = some (Int32.ofInt 1, h') ∧ yc B h' A' nu' ∧ zc_F h h' ∧ ∀ i, i < 2 → nu' i = nu i) := by
  unfold fC_run yz
  rw [yc_T Y, cond_true]
  rcases yc_head (N := N) (by omega) Y with ⟨z1, h1, A1, n1, e1, Y1, F1, r1⟩ | ⟨A1, e, z1, el, h1, n1, e1, Y1, F1, p6, p8, p9, r1⟩
  · refine Or.inl ⟨by rw [z1]; rfl, h1, A1, n1, ?_, Y1, F1, r1⟩
    rw [e1, b2]
    rfl
  · rw [z1, e1, b2, show z_cmp .ne (Int32.ofInt 1) (Int32.ofInt 0) = true from rfl, cond_true]
    rcases yL_run hN Y1 p6 el p8 p9 with ⟨z2, o⟩ | ⟨x, z2, h2, n2, e2, Y2, F2, r2⟩
    · refine Or.inl ⟨?_, yF_t F1 r1 o⟩
      show (yL0 (yW B) A1 e).bind _ = _
      rw [z2]
      rfl
    · refine Or.inr ⟨x.1, ?_, h2, n2, e2, Y2, zc_Ft F1 F2, fun i hi => (r2 i hi).trans (r1 i hi)⟩
      show (yL0 (yW B) A1 e).bind _ = _
      rw [z2]
      rfl
end YCM
section YCN
variable {N : Nat} {h : zH} {now snap : zA} {hist : List zA} {sv : Int} {inp : List Nat} {rep : zvP}
theorem zv_r21 (V : zv h now hist snap sv inp rep) : fR h 203 2 1 = some 206 := by
  obtain ⟨sL, sT, sS, sK, wd, nu, hs, C, _⟩ := V
  exact zc_r21 C
/-- the script's state with the view -/
theorem zv_scr (V : zv h now hist snap sv inp rep) : ∃ B A nu, yc B h A nu ∧ yW B = inp ∧ ∀ h' A' nu', yc B h' A' nu' → (∀ i, i < 2 → nu' i = nu i) → zv h' now hist snap sv inp (rep.1, nu' 2, nu' 3) ∧ (∃ S, zs_S h' 206 A'.1 A'.2.1 S A'.2.2.length ∧ (List.range A'.2.2.length).map S = A'.2.2) := by
  obtain ⟨sL, sT, sS, sK, wd, nu, hs, C, v1, v2, v3, v4, v5, v6, v7, v8, v9⟩ := V
  have q206 : zc_Q 206 := Or.inr (Or.inr rfl)
  refine ⟨(sL, sT, sS, sK, wd, hs), zv_a sL sT sS sK 206, nu, ⟨sS 206, ?_, ?_, v9 206 q206⟩, v7, fun h' A' nu' Y fr => ?_⟩
  · show zc h (zc_u sL 206 (sL 206)) (zc_u sT 206 (sT 206)) (zc_u sS 206 (sS 206)) (zc_u sK 206 ((List.range (sK 206)).map (sS 206)).length) wd nu hs
    rw [List.length_map, List.length_range, zc_ue, zc_ue, zc_ue, zc_ue]
    exact C
  · show (List.range ((List.range (sK 206)).map (sS 206)).length).map (sS 206) = (List.range (sK 206)).map (sS 206)
    rw [List.length_map, List.length_range]
  · obtain ⟨S, C', hS, ok⟩ := Y
    change zc h' (zc_u sL 206 A'.1) (zc_u sT 206 A'.2.1) (zc_u sS 206 S) (zc_u sK 206 A'.2.2.length) wd nu' hs at C'
    have un : ∀ q, q ≠ 206 → zv_a (zc_u sL 206 A'.1) (zc_u sT 206 A'.2.1) (zc_u sS 206 S) (zc_u sK 206 A'.2.2.length) q = zv_a sL sT sS sK q := fun q hq => by
      unfold zv_a
      rw [zc_un _ _ hq, zc_un _ _ hq, zc_un _ _ hq, zc_un _ _ hq]
    have H := zc_st C' q206
    rw [zc_us, zc_us, zc_us, zc_us] at H
    refine ⟨⟨_, _, _, _, _, _, _, C', ?_, (fr 1 (by decide)).trans v2, v3, fun i hi => ?_, ?_, (fr 0 (by decide)).trans v6, v7, ⟨v8.1, rfl, rfl⟩, fun q hq => ?_⟩, S, H, hS⟩
    · rw [un 1 (by decide)]
      exact v1
    · have hq : hs i ≠ 206 := by
        obtain ⟨k, k1, k2⟩ := C.2.2.2.2.2.2.2.2.1 i (by omega)
        omega
      rw [un _ hq]
      exact v4 i hi
    · rw [un 183 (by decide)]
      exact v5
    · by_cases e : q = 206
      · rw [e]
        unfold zv_a
        rw [zc_us, zc_us, zc_us, zc_us, hS]
        exact ok
      · rw [un q e]
        exact v9 q hq
/-- a remembered state leaves the script's as it is -/
theorem zv_rem206 (V : zv h now hist snap sv inp rep) (hN : 1000 ≤ N) {h1 : zH} (e : fH_remember N 21 1 h = some ((), h1)) {L K : Nat} {T : List Nat} {S : Nat → List Nat} (H : zs_S h 206 L T S K) : ∃ S', zs_S h1 206 L T S' K ∧ ∀ j, j < K → S' j = S j := by
  obtain ⟨sL, sT, sS, sK, wd, nu, hs, C, v1, v2, v3, v4, v5, v6, v7, v8, v9⟩ := V
  have q206 : zc_Q 206 := Or.inr (Or.inr rfl)
  have D : ∀ (sL : Nat → Nat) (sT : Nat → List Nat) (sS : Nat → Nat → List Nat) (sK : Nat → Nat), True := fun _ _ _ _ => trivial
  have C2 : zc h (zc_u sL 206 L) (zc_u sT 206 T) (zc_u sS 206 S) (zc_u sK 206 K) wd nu hs := (zc_state C q206 H (zs_Fr h 206)).1
  obtain ⟨h2, S2, hs2, e2, d2, C3, r2, F2⟩ := zc_remember (N := N) C2 hN v2 v3
  rw [e] at e2
  cases e2
  obtain ⟨k, k1, k2⟩ := C3.2.2.2.2.2.2.2.2.1 (min hist.length 7) (by omega)
  have H3 := zc_st C3 q206
  have ne : (206 : Nat) ≠ hs2 (min hist.length 7) := by omega
  rw [zc_un _ _ ne, zc_un _ _ ne, zc_un _ _ ne, zc_un _ _ ne, zc_us, zc_us, zc_us, zc_us] at H3
  exact ⟨S, H3, fun _ _ => rfl⟩
theorem zk_runScript (V : zv h now hist snap sv inp rep) (hN : 1000001 ≤ N) : ∃ k o : Int, (yz inp = none ∧ ∃ h', fB_runScript N 0 h = some (Int32.ofInt (-1), h') ∧ zv h' now hist snap sv [] (rep.1, k, o) ∧ zc_F h h') ∨ (∃ A, yz inp = some A ∧ ∃ h', fB_runScript N 0 h = some (Int32.ofInt (A.2.1.length : Int), h') ∧ zv h' A (zv_push hist now) snap sv [] (rep.1, k, o) ∧ zc_F h h') := by
  obtain ⟨B, A0, nu, Y, hW, cl⟩ := zv_scr V
  unfold fB_runScript
  rw [zv_T0 V, cond_true, zv_r04 V, b1_s]
  rcases yc_run hN Y with ⟨z1, h1, A1, n1, e1, Y1, F1, r1⟩ | ⟨A1, z1, h1, n1, e1, Y1, F1, r1⟩
  · obtain ⟨V1, _⟩ := cl h1 A1 n1 Y1 r1
    obtain ⟨I1, ci⟩ := zv_inp V1
    obtain ⟨h2, e2, W2, F2⟩ := zw_clear (N := N) I1
    obtain ⟨V2, G2⟩ := ci h2 _ W2 F2
    rw [hW] at z1
    refine ⟨n1 2, n1 3, Or.inl ⟨z1, h2, ?_, V2, zc_Ft F1 G2⟩⟩
    rw [e1, b2, zv_r04 V1, b1_s, zv_r20 V1, b1_s, e2, b2, show z_cmp .ne (Int32.ofInt 0) (Int32.ofInt 0) = false from rfl, cond_false]
  · obtain ⟨V1, S1, H1, hS1⟩ := cl h1 A1 n1 Y1 r1
    obtain ⟨I1, ci⟩ := zv_inp V1
    obtain ⟨h2, e2, W2, F2⟩ := zw_clear (N := N) I1
    obtain ⟨V2, G2⟩ := ci h2 _ W2 F2
    have H2 := zs_keepo H1 F2 (by omega)
    obtain ⟨h3, e3, V3, F3⟩ := zv_remember (N := N) V2 (by omega)
    obtain ⟨S3, H3, q3⟩ := zv_rem206 V2 (by omega) e3 H2
    obtain ⟨ok3, S4, H4, hS4, cl4⟩ := zv_open V3
    obtain ⟨h5, S5, e5, H5, q5, F5⟩ := zs_copy (N := N) (by omega) (by omega) H4 H3
    have ok1 := yc_ok Y1
    have mS : (List.range A1.2.2.length).map S5 = A1.2.2 := (zv_map (fun j hj => (q5 j hj).trans (q3 j hj))).trans hS1
    obtain ⟨V5, G5⟩ := cl4 h5 _ _ _ _ H5 F5 (by rw [mS]; exact ok1)
    rw [mS] at V5
    rw [hW] at z1
    refine ⟨n1 2, n1 3, Or.inr ⟨A1, z1, h5, ?_, V5, zc_Ft F1 (zc_Ft G2 (zc_Ft F3 G5))⟩⟩
    rw [e1, b2, zv_r04 V1, b1_s, zv_r20 V1, b1_s, e2, b2, show z_cmp .ne (Int32.ofInt 1) (Int32.ofInt 0) = true from rfl, cond_true, zv_r01 V2, b1_s, zv_r00 V2, b1_s, e3, b2, zv_r00 V3, b1_s, zv_r04 V3, b1_s, zv_r21 V3, b1_s, e5, b2, zv_r00 V5, b1_s, zv_t V5, b1_s, zw_z (zv_txt V5), b1_s]
end YCN
end
