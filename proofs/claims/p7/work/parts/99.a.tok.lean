/-! SCRIPTS: their bytes and tokens. -/
/-- what a byte begins: 1 a word, 2 a number, 3 and 4 parentheses, 5 a semicolon, 6 nothing, 7 no token -/
def yt_k (v : Nat) : Nat := if 97 ≤ v ∧ v ≤ 122 then 1 else if 48 ≤ v ∧ v ≤ 57 then 2 else if v = 10 ∨ v = 32 then 6 else if v = 40 then 3 else if v = 41 then 4 else if v = 59 then 5 else 7
theorem yt_kb (v : Nat) : 1 ≤ yt_k v ∧ yt_k v ≤ 7 := by
  unfold yt_k
  repeat' split
  all_goals omega
theorem yt_k1 {v : Nat} (h : yt_k v = 1) : 97 ≤ v ∧ v ≤ 122 := by
  unfold yt_k at h
  by_cases e : 97 ≤ v ∧ v ≤ 122
  · exact e
  · rw [if_neg e] at h
    repeat' split at h
    all_goals omega
theorem yt_k2 {v : Nat} (h : yt_k v = 2) : 48 ≤ v ∧ v ≤ 57 := by
  unfold yt_k at h
  by_cases e : 97 ≤ v ∧ v ≤ 122
  · rw [if_pos e] at h
    omega
  · rw [if_neg e] at h
    by_cases e2 : 48 ≤ v ∧ v ≤ 57
    · exact e2
    · rw [if_neg e2] at h
      repeat' split at h
      all_goals omega
theorem yt_lkn {α : Type} {v a : Int} {d x : α} {l : List (Int × α)} (h : a ≠ v) : z_lk v d ((a, x) :: l) = z_lk v d l := by
  show cond (decide (a = v)) x _ = _
  rw [decide_eq_false h]
  rfl
theorem yt_lk (N v : Nat) (h : zH) (h1 : ¬ (97 ≤ v ∧ v ≤ 122)) (h2 : ¬ (48 ≤ v ∧ v ≤ 57)) : z_lk ((v : Nat) : Int) (some (Int32.ofInt 7, h)) ((([(-1, 88), (10, 90), (32, 90), (40, 93), (41, 95), (59, 97)] : List (Int × Nat)).map (·.1)).zip [some ((Int32.ofInt 0), h), fC_kindOf_90 N h, fC_kindOf_90 N h, some ((Int32.ofInt 3), h), some ((Int32.ofInt 4), h), some ((Int32.ofInt 5), h)]) = some (Int32.ofInt ((yt_k v : Nat) : Int), h) := by
  show z_lk ((v : Nat) : Int) (some (Int32.ofInt 7, h)) [((-1 : Int), some (Int32.ofInt 0, h)), (10, some (Int32.ofInt 6, h)), (32, some (Int32.ofInt 6, h)), (40, some (Int32.ofInt 3, h)), (41, some (Int32.ofInt 4, h)), (59, some (Int32.ofInt 5, h))] = _
  by_cases a1 : v = 10
  · subst a1
    rfl
  by_cases a2 : v = 32
  · subst a2
    rfl
  by_cases a3 : v = 40
  · subst a3
    rfl
  by_cases a4 : v = 41
  · subst a4
    rfl
  by_cases a5 : v = 59
  · subst a5
    rfl
  have e : yt_k v = 7 := by
    unfold yt_k
    rw [if_neg h1, if_neg h2, if_neg (by omega), if_neg a3, if_neg a4, if_neg a5]
  rw [e, yt_lkn (by omega), yt_lkn (by omega), yt_lkn (by omega), yt_lkn (by omega), yt_lkn (by omega), yt_lkn (by omega)]
  rfl
theorem yt_kind (N v : Nat) (hv : v < 256) (h : zH) : fC_kindOf N (Int32.ofInt (v : Int)) h = some (Int32.ofInt ((yt_k v : Nat) : Int), h) := by
  have hi : (Int32.ofInt (v : Int)).toInt = (v : Int) := zqo_i _ (by omega)
  have k14 : ¬ (97 ≤ v ∧ v ≤ 122) → fC_kindOf_14 N (Int32.ofInt (v : Int)) h = some (Int32.ofInt ((yt_k v : Nat) : Int), h) := by
    intro n1
    have k28 : ¬ (48 ≤ v ∧ v ≤ 57) → fC_kindOf_28 N (Int32.ofInt (v : Int)) h = some (Int32.ofInt ((yt_k v : Nat) : Int), h) := by
      intro n2
      unfold fC_kindOf_28
      rw [hi]
      exact yt_lk N v h n1 n2
    unfold fC_kindOf_14
    rw [zqo_lt _ _ (by omega) (by decide), zqo_gt _ _ (by omega) (by decide)]
    by_cases e1 : (v : Int) < 48
    · rw [decide_eq_true e1, cond_true]
      exact k28 (by omega)
    · rw [decide_eq_false e1, cond_false]
      by_cases e2 : (57 : Int) < (v : Int)
      · rw [decide_eq_true e2, cond_true]
        exact k28 (by omega)
      · rw [decide_eq_false e2, cond_false]
        have e : yt_k v = 2 := by
          unfold yt_k
          rw [if_neg n1, if_pos (by omega)]
        rw [e]
        rfl
  unfold fC_kindOf
  rw [zqo_lt _ _ (by omega) (by decide), zqo_gt _ _ (by omega) (by decide)]
  by_cases e1 : (v : Int) < 97
  · rw [decide_eq_true e1, cond_true]
    exact k14 (by omega)
  · rw [decide_eq_false e1, cond_false]
    by_cases e2 : (122 : Int) < (v : Int)
    · rw [decide_eq_true e2, cond_true]
      exact k14 (by omega)
    · rw [decide_eq_false e2, cond_false]
      have e : yt_k v = 1 := by
        unfold yt_k
        rw [if_pos (by omega)]
      rw [e]
      rfl
theorem yt_kindE (N : Nat) (h : zH) : fC_kindOf N (Int32.ofInt (-1)) h = some (Int32.ofInt 0, h) := rfl
/-- behind blanks -/
def yt_b (s : List Nat) : Nat → Nat → Nat
  | 0, p => p
  | c + 1, p => if yt_k (s.getD p 0) = 6 then yt_b s c (p + 1) else p
/-- behind bytes of one kind -/
def yt_r (s : List Nat) (k : Nat) : Nat → Nat → Nat
  | 0, p => p
  | c + 1, p => if yt_k (s.getD p 0) = k then yt_r s k c (p + 1) else p
theorem yt_bb {s : List Nat} : ∀ c p, p + c = s.length → p ≤ yt_b s c p ∧ yt_b s c p ≤ s.length := by
  intro c
  induction c with
  | zero => intro p h; exact ⟨Nat.le_refl p, by show p ≤ _; omega⟩
  | succ c ih =>
    intro p h
    rw [yt_b]
    split
    · have := ih (p + 1) (by omega)
      omega
    · omega
theorem yt_rb {s : List Nat} {k : Nat} : ∀ c p, p + c = s.length → p ≤ yt_r s k c p ∧ yt_r s k c p ≤ s.length := by
  intro c
  induction c with
  | zero => intro p h; exact ⟨Nat.le_refl p, by show p ≤ _; omega⟩
  | succ c ih =>
    intro p h
    rw [yt_r]
    split
    · have := ih (p + 1) (by omega)
      omega
    · omega
theorem yt_rk {s : List Nat} {k : Nat} : ∀ c p j, p ≤ j → j < yt_r s k c p → yt_k (s.getD j 0) = k := by
  intro c
  induction c with
  | zero =>
    intro p j h1 h2
    rw [yt_r] at h2
    omega
  | succ c ih =>
    intro p j h1 h2
    rw [yt_r] at h2
    split at h2
    · next e =>
      by_cases e2 : j = p
      · rw [e2]
        exact e
      · exact ih (p + 1) j (by omega) h2
    · omega
/-- where the token behind p begins -/
def yt_s (s : List Nat) (p : Nat) : Nat := yt_b s (s.length - p) p
/-- where the token that begins at p ends -/
def yt_e (s : List Nat) (p : Nat) : Nat := if s.length ≤ p then p else if yt_k (s.getD p 0) = 1 ∨ yt_k (s.getD p 0) = 2 then yt_r s (yt_k (s.getD p 0)) (s.length - (p + 1)) (p + 1) else p + 1
/-- its kind -/
def yt_q (s : List Nat) (p : Nat) : Nat := if s.length ≤ p then 0 else if yt_k (s.getD p 0) = 2 ∧ 3 < yt_e s p - p then 7 else yt_k (s.getD p 0)
def yt_w (s : List Nat) : Nat → Nat → Nat → Nat
  | 0, _, x => x
  | c + 1, p, x => yt_w s c (p + 1) (10 * x + (s.getD p 0 - 48))
/-- a number's value -/
def yt_v (s : List Nat) (p : Nat) : Nat := yt_w s (yt_e s p - p) p 0
theorem yt_sb {s : List Nat} {p : Nat} (h : p ≤ s.length) : p ≤ yt_s s p ∧ yt_s s p ≤ s.length := yt_bb _ p (by omega)
theorem yt_eb {s : List Nat} {p : Nat} (h : p ≤ s.length) : p ≤ yt_e s p ∧ yt_e s p ≤ s.length ∧ (p < s.length → p < yt_e s p) := by
  unfold yt_e
  split
  · omega
  · split
    · have := yt_rb (s := s) (k := yt_k (s.getD p 0)) (s.length - (p + 1)) (p + 1) (by omega)
      omega
    · omega
theorem yt_q0 {s : List Nat} {p : Nat} (h : p ≤ s.length) : yt_q s p = 0 ↔ p = s.length := by
  unfold yt_q
  have := yt_kb (s.getD p 0)
  split
  · omega
  · split <;> omega
theorem yt_qb (s : List Nat) (p : Nat) : yt_q s p ≤ 7 := by
  unfold yt_q
  have := yt_kb (s.getD p 0)
  split
  · omega
  · split <;> omega
theorem yt_wb {s : List Nat} : ∀ c p x, (∀ j, p ≤ j → j < p + c → s.getD j 0 ≤ 57) → yt_w s c p x + 1 ≤ 10 ^ c * (x + 1) := by
  intro c
  induction c with
  | zero =>
    intro p x h
    rw [yt_w]
    omega
  | succ c ih =>
    intro p x h
    rw [yt_w]
    have h1 := ih (p + 1) (10 * x + (s.getD p 0 - 48)) (fun j a b => h j (by omega) (by omega))
    have h2 := h p (Nat.le_refl p) (by omega)
    refine Nat.le_trans h1 ?_
    rw [Nat.pow_succ, Nat.mul_assoc]
    exact Nat.mul_le_mul_left _ (by omega)
/-- a word's bytes are letters -/
theorem yt_q1 {s : List Nat} {p : Nat} (h : yt_q s p = 1) : p < s.length ∧ ∀ j, p ≤ j → j < yt_e s p → yt_k (s.getD j 0) = 1 := by
  unfold yt_q at h
  by_cases e1 : s.length ≤ p
  · rw [if_pos e1] at h
    omega
  · rw [if_neg e1] at h
    by_cases e2 : yt_k (s.getD p 0) = 2 ∧ 3 < yt_e s p - p
    · rw [if_pos e2] at h
      omega
    · rw [if_neg e2] at h
      refine ⟨by omega, fun j h1 h2 => ?_⟩
      unfold yt_e at h2
      rw [if_neg e1, if_pos (Or.inl h), h] at h2
      by_cases e3 : j = p
      · rw [e3]
        exact h
      · exact yt_rk _ (p + 1) j (by omega) h2
/-- a number's bytes are digits, three at most -/
theorem yt_q2 {s : List Nat} {p : Nat} (h : yt_q s p = 2) : p < s.length ∧ yt_e s p - p ≤ 3 ∧ ∀ j, p ≤ j → j < yt_e s p → yt_k (s.getD j 0) = 2 := by
  unfold yt_q at h
  by_cases e1 : s.length ≤ p
  · rw [if_pos e1] at h
    omega
  · rw [if_neg e1] at h
    by_cases e2 : yt_k (s.getD p 0) = 2 ∧ 3 < yt_e s p - p
    · rw [if_pos e2] at h
      omega
    · rw [if_neg e2] at h
      refine ⟨by omega, by omega, fun j h1 h2 => ?_⟩
      unfold yt_e at h2
      rw [if_neg e1, if_pos (Or.inr h), h] at h2
      by_cases e3 : j = p
      · rw [e3]
        exact h
      · exact yt_rk _ (p + 1) j (by omega) h2
theorem yt_v999 {s : List Nat} {p : Nat} (h : yt_q s p = 2) : yt_v s p ≤ 999 := by
  obtain ⟨h1, h2, h3⟩ := yt_q2 h
  have h4 := yt_wb (s := s) (yt_e s p - p) p 0 (fun j a b => (yt_k2 (h3 j a (by omega))).2)
  have h5 : 10 ^ (yt_e s p - p) ≤ 10 ^ 3 := Nat.pow_le_pow_right (by decide) h2
  unfold yt_v
  omega
/-! THE CLASS'S SCRIPT: the script's state at 206 and its numbers; all else stays. -/
abbrev yB : Type := (Nat → Nat) × (Nat → List Nat) × (Nat → Nat → List Nat) × (Nat → Nat) × (Nat → List Nat) × (Nat → Nat)
def yc (B : yB) (h : zH) (A : zA) (nu : Nat → Int) : Prop := ∃ S, zc h (zc_u B.1 206 A.1) (zc_u B.2.1 206 A.2.1) (zc_u B.2.2.1 206 S) (zc_u B.2.2.2.1 206 A.2.2.length) B.2.2.2.2.1 nu B.2.2.2.2.2 ∧ (List.range A.2.2.length).map S = A.2.2 ∧ zv_ok A
/-- the source -/
def yW (B : yB) : List Nat := B.2.2.2.2.1 204
theorem zc_uu {α : Type} (f : Nat → α) (q : Nat) (v w : α) : zc_u (zc_u f q v) q w = zc_u f q w := by
  funext p
  unfold zc_u
  split <;> rfl
theorem zc_ue {α : Type} (f : Nat → α) (q : Nat) : zc_u f q (f q) = f := by
  funext p
  unfold zc_u
  split
  · next e => rw [e]
  · rfl
theorem zw_mul (a b : Int) : Int32.ofInt a * Int32.ofInt b = Int32.ofInt (a * b) := (Int32.ofInt_mul ..).symm
section YCA
variable {N : Nat} {B : yB} {h : zH} {A : zA} {nu : Nat → Int}
theorem yc_T (Y : yc B h A nu) : fT h 203 2 = true := by
  obtain ⟨S, C, _⟩ := Y
  exact zc_T2 C
theorem yc_r0 (Y : yc B h A nu) : fR h 203 2 0 = some 204 := by
  obtain ⟨S, C, _⟩ := Y
  exact zc_r20 C
theorem yc_r1 (Y : yc B h A nu) : fR h 203 2 1 = some 206 := by
  obtain ⟨S, C, _⟩ := Y
  exact zc_r21 C
theorem yc_i (Y : yc B h A nu) (k : Nat) (hk : 2 ≤ k ∧ k ≤ 9) : fI h 203 2 k = some (Int32.ofInt (nu k)) := by
  obtain ⟨S, C, _⟩ := Y
  exact zc_sc C k hk
theorem yc_s (Y : yc B h A nu) (k : Nat) (hk : 2 ≤ k ∧ k ≤ 9) (x : Int) : ∃ h', fS h 203 2 k (.int (Int32.ofInt x)) = some h' ∧ yc B h' A (zc_u nu k x) ∧ zc_F h h' := by
  obtain ⟨S, C, hS, ok⟩ := Y
  obtain ⟨h1, e1, C1, F1⟩ := zc_scs C k hk x
  exact ⟨h1, e1, ⟨S, C1, hS, ok⟩, F1⟩
theorem yc_W (Y : yc B h A nu) : zw_W h 204 600 (yW B) := by
  obtain ⟨S, C, _⟩ := Y
  exact zc_wd C (Or.inl ⟨rfl, rfl⟩)
theorem yc_ok (Y : yc B h A nu) : zv_ok A := by
  obtain ⟨S, C, hS, ok⟩ := Y
  exact ok
/-- the script's state opened -/
theorem yc_st (Y : yc B h A nu) : ∃ S, zs_S h 206 A.1 A.2.1 S A.2.2.length ∧ (List.range A.2.2.length).map S = A.2.2 ∧ ∀ h' L' T' S' K', zs_S h' 206 L' T' S' K' → zs_F h h' 206 → zv_ok (L', T', (List.range K').map S') → yc B h' (L', T', (List.range K').map S') nu ∧ zc_F h h' := by
  obtain ⟨S, C, hS, ok⟩ := Y
  have H := zc_st C (q := 206) (Or.inr (Or.inr rfl))
  rw [zc_us, zc_us, zc_us, zc_us] at H
  refine ⟨S, H, hS, fun h' L' T' S' K' H' F ok' => ?_⟩
  obtain ⟨C2, F2⟩ := zc_state C (q := 206) (Or.inr (Or.inr rfl)) H' F
  rw [zc_uu, zc_uu, zc_uu, zc_uu] at C2
  have hl : ((List.range K').map S').length = K' := by rw [List.length_map, List.length_range]
  refine ⟨⟨S', ?_, ?_, ok'⟩, F2⟩
  · show zc h' (zc_u B.1 206 L') (zc_u B.2.1 206 T') (zc_u B.2.2.1 206 S') (zc_u B.2.2.2.1 206 ((List.range K').map S').length) B.2.2.2.2.1 nu B.2.2.2.2.2
    rw [hl]
    exact C2
  · show (List.range ((List.range K').map S').length).map S' = _
    rw [hl]
theorem yc_t (Y : yc B h A nu) : fR h 206 3 1 = some (206 + 1) := by
  obtain ⟨S, H, _⟩ := yc_st Y
  exact zs_t H
theorem yc_txt (Y : yc B h A nu) : zw_W h (206 + 1) 120 A.2.1 := by
  obtain ⟨S, H, _⟩ := yc_st Y
  exact H.2.2.2.1
/-- the text changed -/
theorem yc_text {h' : zH} {T : List Nat} (Y : yc B h A nu) (W : zw_W h' (206 + 1) 120 T) (F : zw_F h h' (206 + 1)) (hT : zv_L A T) : yc B h' (A.1, T, A.2.2) nu ∧ zc_F h h' := by
  have ok := yc_ok Y
  obtain ⟨S, H, hS, cl⟩ := yc_st Y
  obtain ⟨H2, F2⟩ := zs_text H W F
  have := cl h' _ _ _ _ H2 F2 ⟨ok.1, W.2.2.2.1, hT, by rw [hS]; exact ok.2.2.2.1, by rw [hS]; exact ok.2.2.2.2⟩
  rw [hS] at this
  exact this
/-- blanks passed -/
theorem yc_skip : ∀ (c f p : Nat) (h : zH) (nu : Nat → Int), yc B h A nu → nu 6 = (p : Int) → p + c = (yW B).length → c < f → ∃ h' nu', fC_readToken_0 N f 203 h = fC_readToken_46 N 203 h' ∧ yc B h' A nu' ∧ zc_F h h' ∧ nu' 6 = (yt_b (yW B) c p : Int) ∧ ∀ k, k ≠ 6 → nu' k = nu k := by
  intro c
  induction c with
  | zero =>
    intro f p h nu Y h6 h1 h2
    obtain ⟨g, rfl⟩ : ∃ g, f = g + 1 := ⟨f - 1, by omega⟩
    have W := yc_W Y
    have l6 := W.2.2.2.1
    refine ⟨h, nu, ?_, Y, zc_Fr h, h6, fun _ _ => rfl⟩
    rw [fC_readToken_0, yc_i Y 6 (by decide), b1_s, h6, yc_r0 Y, b1_s, zw_z W, b1_s, zqo_ge _ _ (by omega) (by omega), decide_eq_true (by omega), cond_true]
  | succ c ih =>
    intro f p h nu Y h6 h1 h2
    obtain ⟨g, rfl⟩ : ∃ g, f = g + 1 := ⟨f - 1, by omega⟩
    have W := yc_W Y
    have l6 := W.2.2.2.1
    have g1 := zw_gD W.2.2.2.2.2 p
    have kb := yt_kb ((yW B).getD p 0)
    by_cases e : yt_k ((yW B).getD p 0) = 6
    · obtain ⟨h5, e5, Y5, F5⟩ := yc_s Y 6 (by decide) ((p : Int) + 1)
      obtain ⟨h7, n7, e7, Y7, F7, p7, r7⟩ := ih g (p + 1) h5 _ Y5 (zc_us _ _ _) (by omega) (by omega)
      refine ⟨h7, n7, ?_, Y7, zc_Ft F5 F7, ?_, fun k hk => (r7 k hk).trans (zc_un nu _ hk)⟩
      · rw [fC_readToken_0, yc_i Y 6 (by decide), b1_s, h6, yc_r0 Y, b1_s, zw_z W, b1_s, zqo_ge _ _ (by omega) (by omega), decide_eq_false (by omega), cond_false, b1_s, b1_s, zw_at W _ (by omega), b2, zw_gi (by omega), show ((p : Nat) : Int).toNat = p by omega, yt_kind N _ g1, b2, zqo_ne _ _ (by omega) (by decide), decide_eq_true (by omega), Bool.not_true, cond_false, yc_i Y 6 (by decide), b1_s, h6, zw_add, e5, b1_s]
        exact e7
      · rw [yt_b, if_pos e]
        exact p7
    · refine ⟨h, nu, ?_, Y, zc_Fr h, ?_, fun _ _ => rfl⟩
      · rw [fC_readToken_0, yc_i Y 6 (by decide), b1_s, h6, yc_r0 Y, b1_s, zw_z W, b1_s, zqo_ge _ _ (by omega) (by omega), decide_eq_false (by omega), cond_false, b1_s, b1_s, zw_at W _ (by omega), b2, zw_gi (by omega), show ((p : Nat) : Int).toNat = p by omega, yt_kind N _ g1, b2, zqo_ne _ _ (by omega) (by decide), decide_eq_false (by omega), Bool.not_false, cond_true]
      · rw [yt_b, if_neg e]
        exact h6
/-- bytes of the token's kind passed -/
theorem yc_more {q : Nat} (hq : q ≤ 7) : ∀ (c f p : Nat) (h : zH) (nu : Nat → Int), yc B h A nu → nu 6 = (p : Int) → nu 4 = (q : Int) → p + c = (yW B).length → c < f → ∃ h' nu', fC_readToken_105 N f 203 h = fC_readToken_153 N 203 h' ∧ yc B h' A nu' ∧ zc_F h h' ∧ nu' 6 = (yt_r (yW B) q c p : Int) ∧ ∀ k, k ≠ 6 → nu' k = nu k := by
  intro c
  induction c with
  | zero =>
    intro f p h nu Y h6 h4 h1 h2
    obtain ⟨g, rfl⟩ : ∃ g, f = g + 1 := ⟨f - 1, by omega⟩
    have W := yc_W Y
    have l6 := W.2.2.2.1
    refine ⟨h, nu, ?_, Y, zc_Fr h, h6, fun _ _ => rfl⟩
    rw [fC_readToken_105, yc_i Y 6 (by decide), b1_s, h6, yc_r0 Y, b1_s, zw_z W, b1_s, zqo_ge _ _ (by omega) (by omega), decide_eq_true (by omega), cond_true]
  | succ c ih =>
    intro f p h nu Y h6 h4 h1 h2
    obtain ⟨g, rfl⟩ : ∃ g, f = g + 1 := ⟨f - 1, by omega⟩
    have W := yc_W Y
    have l6 := W.2.2.2.1
    have g1 := zw_gD W.2.2.2.2.2 p
    have kb := yt_kb ((yW B).getD p 0)
    by_cases e : yt_k ((yW B).getD p 0) = q
    · obtain ⟨h5, e5, Y5, F5⟩ := yc_s Y 6 (by decide) ((p : Int) + 1)
      obtain ⟨h7, n7, e7, Y7, F7, p7, r7⟩ := ih g (p + 1) h5 _ Y5 (zc_us _ _ _) ((zc_un nu _ (by decide)).trans h4) (by omega) (by omega)
      refine ⟨h7, n7, ?_, Y7, zc_Ft F5 F7, ?_, fun k hk => (r7 k hk).trans (zc_un nu _ hk)⟩
      · rw [fC_readToken_105, yc_i Y 6 (by decide), b1_s, h6, yc_r0 Y, b1_s, zw_z W, b1_s, zqo_ge _ _ (by omega) (by omega), decide_eq_false (by omega), cond_false, b1_s, b1_s, zw_at W _ (by omega), b2, zw_gi (by omega), show ((p : Nat) : Int).toNat = p by omega, yt_kind N _ g1, b2, yc_i Y 4 (by decide), b1_s, h4, zqo_ne _ _ (by omega) (by omega), decide_eq_true (by omega), Bool.not_true, cond_false, yc_i Y 6 (by decide), b1_s, h6, zw_add, e5, b1_s]
        exact e7
      · rw [yt_r, if_pos e]
        exact p7
    · refine ⟨h, nu, ?_, Y, zc_Fr h, ?_, fun _ _ => rfl⟩
      · rw [fC_readToken_105, yc_i Y 6 (by decide), b1_s, h6, yc_r0 Y, b1_s, zw_z W, b1_s, zqo_ge _ _ (by omega) (by omega), decide_eq_false (by omega), cond_false, b1_s, b1_s, zw_at W _ (by omega), b2, zw_gi (by omega), show ((p : Nat) : Int).toNat = p by omega, yt_kind N _ g1, b2, yc_i Y 4 (by decide), b1_s, h4, zqo_ne _ _ (by omega) (by omega), decide_eq_false (by omega), Bool.not_false, cond_true]
      · rw [yt_r, if_neg e]
        exact h6
/-- a number's value -/
theorem yc_value {e0 : Nat} : ∀ (c f i x : Nat) (h : zH) (nu : Nat → Int), yc B h A nu → nu 6 = (e0 : Int) → nu 7 = (x : Int) → i + c = e0 → e0 ≤ (yW B).length → c < f → (∀ j, i ≤ j → j < e0 → yt_k ((yW B).getD j 0) = 2) → ∃ h' nu', fC_readNumber_30 N f 203 (Int32.ofInt (i : Int)) h = some ((), h') ∧ yc B h' A nu' ∧ zc_F h h' ∧ nu' 7 = (yt_w (yW B) c i x : Int) ∧ ∀ k, k ≠ 7 → nu' k = nu k := by
  intro c
  induction c with
  | zero =>
    intro f i x h nu Y h6 h7 h1 h8 h2 h3
    obtain ⟨g, rfl⟩ : ∃ g, f = g + 1 := ⟨f - 1, by omega⟩
    have l6 := (yc_W Y).2.2.2.1
    refine ⟨h, nu, ?_, Y, zc_Fr h, h7, fun _ _ => rfl⟩
    rw [fC_readNumber_30, yc_i Y 6 (by decide), b1_s, h6, zqo_ge _ _ (by omega) (by omega), decide_eq_true (by omega), cond_true]
  | succ c ih =>
    intro f i x h nu Y h6 h7 h1 h8 h2 h3
    obtain ⟨g, rfl⟩ : ∃ g, f = g + 1 := ⟨f - 1, by omega⟩
    have W := yc_W Y
    have l6 := W.2.2.2.1
    have d := yt_k2 (h3 i (Nat.le_refl i) (by omega))
    obtain ⟨h5, e5, Y5, F5⟩ := yc_s Y 7 (by decide) ((x : Int) * 10 + ((yW B).getD i 0 : Int) - 48)
    obtain ⟨h9, n9, e9, Y9, F9, p9, r9⟩ := ih g (i + 1) (10 * x + ((yW B).getD i 0 - 48)) h5 _ Y5 ((zc_un nu _ (by decide)).trans h6) (by rw [zc_us]; omega) (by omega) h8 (by omega) (fun j a b => h3 j (by omega) b)
    refine ⟨h9, n9, ?_, Y9, zc_Ft F5 F9, p9, fun k hk => (r9 k hk).trans (zc_un nu _ hk)⟩
    rw [fC_readNumber_30, yc_i Y 6 (by decide), b1_s, h6, zqo_ge _ _ (by omega) (by omega), decide_eq_false (by omega), cond_false, yc_i Y 7 (by decide), b1_s, h7, yc_r0 Y, b1_s, zw_at W _ (by omega), b2, zw_gi (by omega), show ((i : Nat) : Int).toNat = i by omega, zw_mul, zw_add, zw_sub, e5, b1_s, zh_inc]
    exact e9
end YCA
