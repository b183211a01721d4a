/-! THE FIRST CALL: bruijnLetter, the reference's loops. -/
/-- the digits of k in base 3, j of them -/
def zb_dg : Nat → Nat → List Nat
  | 0, _ => []
  | j + 1, k => zb_dg j (k / 3) ++ [k % 3]
theorem zb_dgl : ∀ j k : Nat, (zb_dg j k).length = j := by
  intro j
  induction j with
  | zero => intro k; rfl
  | succ j ih => intro k; rw [zb_dg, List.length_append, ih]; rfl
theorem zb_dgb : ∀ j k : Nat, ∀ t ∈ zb_dg j k, t ≤ 2 := by
  intro j
  induction j with
  | zero => intro k t h; cases h
  | succ j ih =>
    intro k t h
    rw [zb_dg, List.mem_append, List.mem_singleton] at h
    rcases h with h | h
    · exact ih _ _ h
    · omega
def zb_V (l : List Nat) : List Value := l.map fun (t : Nat) => Value.int (Int32.ofInt (t : Int))
theorem zb_d3 (k : Nat) (hk : k < 2187) : Int32.ofInt (k : Int) / Int32.ofInt 3 = Int32.ofInt ((k / 3 : Nat) : Int) ∧ Int32.ofInt (k : Int) - Int32.ofInt (k : Int) / Int32.ofInt 3 * Int32.ofInt 3 = Int32.ofInt ((k % 3 : Nat) : Int) := by
  have h := List.all_eq_true.mp (show ((List.range 2187).all fun k => decide (Int32.ofInt ((k : Nat) : Int) / Int32.ofInt 3 = Int32.ofInt ((k / 3 : Nat) : Int) ∧ Int32.ofInt ((k : Nat) : Int) - Int32.ofInt ((k : Nat) : Int) / Int32.ofInt 3 * Int32.ofInt 3 = Int32.ofInt ((k % 3 : Nat) : Int))) = true by decide +kernel) k (List.mem_range.mpr hk)
  exact of_decide_eq_true h
theorem zb_n3 : ¬ (Int32.ofInt 3 = Int32.ofInt 0) := by decide
theorem zb_spell {h : zH} {vs W : List Value} (eq : h[232]? = some (5, vs)) (e0 : vs[0]? = some (.ref 233)) (e8 : vs[8]? = some (.ref 239)) (ew : h[233]? = some (100, W)) (w0 : W[0]? = some (.int (Int32.ofInt 3))) (hp : 239 < h.length) : ∀ j k f : Nat, ∀ P : List Value, j < f → j ≤ P.length → j ≤ 130 → k < 2187 → fM_spells_12 3000 f 232 (Int32.ofInt (k : Int)) (Int32.ofInt ((j : Int) - 1)) (h.set 239 (100, P)) = some ((), h.set 239 (100, zb_V (zb_dg j k) ++ P.drop j)) := by
  intro j
  induction j with
  | zero =>
    intro k f P hf hP hj hk
    obtain ⟨m, rfl⟩ : ∃ m, f = m + 1 := ⟨f - 1, by omega⟩
    rw [fM_spells_12, show z_cmp .lt (Int32.ofInt (((0 : Nat) : Int) - 1)) (Int32.ofInt 0) = true from rfl, cond_true]
    rfl
  | succ j ih =>
    intro k f P hf hP hj hk
    obtain ⟨m, rfl⟩ : ∃ m, f = m + 1 := ⟨f - 1, by omega⟩
    have eP : ∀ Q, (h.set 239 (100, Q))[239]? = some (100, Q) := fun Q => List.getElem?_set_self hp
    have eQ : ∀ Q, (h.set 239 (100, Q))[232]? = some (5, vs) := fun Q => (zh_set (by decide)).trans eq
    have eW : ∀ Q, (h.set 239 (100, Q))[233]? = some (100, W) := fun Q => (zh_set (by decide)).trans ew
    have a3 : ∀ Q, fAI (h.set 239 (100, Q)) 233 100 (Int32.ofInt 0) = some (Int32.ofInt 3) := fun Q => zh_AI (i := 0) (by decide) (eW Q) w0 (by decide)
    rw [show (((j + 1 : Nat) : Int) - 1) = (j : Int) by omega, fM_spells_12, zj_lt _ 0 (by decide), zqo_i _ (by omega), decide_eq_false (by omega), cond_false, zh_R (by decide) (eQ P) e8, b1, zh_R (by decide) (eQ P) e0, b1, a3, b1, if_neg zb_n3, (zb_d3 k hk).2, zh_AS (eP P) (by omega) (by omega), b1, List.set_set, zh_R (by decide) (eQ _) e0, b1, a3, b1, if_neg zb_n3, (zb_d3 k hk).1, ← Int32.ofInt_add, show (j : Int) + -1 = (j : Int) - 1 by omega]
    rw [ih (k / 3) m _ (by omega) (by rw [List.length_set]; omega) (by omega) (by omega)]
    rw [zb_dg]
    unfold zb_V
    rw [List.map_append, List.append_assoc, List.drop_eq_getElem_cons (by rw [List.length_set]; omega), List.getElem_set_self, List.drop_set_of_lt (by omega)]
    rfl
/-- what the reference's calls need, with the answer's cell -/
def zb_q (h : zH) (w : Int64) : Prop := ∃ vs R, h[232]? = some (5, vs) ∧ vs[0]? = some (.ref 233) ∧ vs[8]? = some (.ref 239) ∧ vs[17]? = some (.int (Int32.ofInt 0)) ∧ vs.length = 24 ∧ h[233]? = some (100, zqo_W) ∧ h[239]? = some (100, R) ∧ R.length = 130 ∧ h[243]? = some (103, [.long w]) ∧ h.length = 244
/-- the same, with a word in the row -/
def zb_qk (h : zH) (w : Int64) (n : Nat) (L : List Nat) : Prop := ∃ vs R, h[232]? = some (5, vs) ∧ vs[0]? = some (.ref 233) ∧ vs[8]? = some (.ref 239) ∧ vs[17]? = some (.int (Int32.ofInt 0)) ∧ vs.length = 24 ∧ h[233]? = some (100, zqo_W) ∧ h[239]? = some (100, zb_V L ++ R) ∧ (zb_V L ++ R).length = 130 ∧ h[243]? = some (103, [.long w]) ∧ h.length = 244 ∧ vs[14]? = some (.int (Int32.ofInt (n : Int)))
theorem zb_qkq {h : zH} {w : Int64} {n : Nat} {L : List Nat} (H : zb_qk h w n L) : zb_q h w := by
  obtain ⟨vs, R, a1, a2, a3, a4, a5, a6, a7, a8, a9, a10, _⟩ := H
  exact ⟨vs, _, a1, a2, a3, a4, a5, a6, a7, a8, a9, a10⟩
theorem zb_W0 : zqo_W[0]? = some (.int (Int32.ofInt 3)) := by decide +kernel
theorem zb_spells {h : zH} {w : Int64} {n k : Nat} (hn : n ≤ 7) (hk : k < 2187) (H : zb_q h w) : ∃ h', fM_spells 3000 232 (Int32.ofInt (k : Int)) (Int32.ofInt (n : Int)) h = some ((), h') ∧ zb_qk h' w n (zb_dg n k) := by
  obtain ⟨vs, R, a1, a2, a3, a4, a5, a6, a7, a8, a9, a10⟩ := H
  have l1 : (h.set 232 (5, vs.set 14 (.int (Int32.ofInt (n : Int))))).length = 244 := by rw [List.length_set]; exact a10
  have b1' : (h.set 232 (5, vs.set 14 (.int (Int32.ofInt (n : Int)))))[232]? = some (5, vs.set 14 (.int (Int32.ofInt (n : Int)))) := List.getElem?_set_self (by omega)
  have b2' : (h.set 232 (5, vs.set 14 (.int (Int32.ofInt (n : Int)))))[239]? = some (100, R) := (zh_set (by decide)).trans a7
  have b3' : (h.set 232 (5, vs.set 14 (.int (Int32.ofInt (n : Int)))))[233]? = some (100, zqo_W) := (zh_set (by decide)).trans a6
  have b4' : (h.set 232 (5, vs.set 14 (.int (Int32.ofInt (n : Int)))))[243]? = some (103, [.long w]) := (zh_set (by decide)).trans a9
  have c0 : (vs.set 14 (.int (Int32.ofInt (n : Int))))[0]? = some (.ref 233) := by rw [List.getElem?_set_ne (by decide)]; exact a2
  have c8 : (vs.set 14 (.int (Int32.ofInt (n : Int))))[8]? = some (.ref 239) := by rw [List.getElem?_set_ne (by decide)]; exact a3
  have c17 : (vs.set 14 (.int (Int32.ofInt (n : Int))))[17]? = some (.int (Int32.ofInt 0)) := by rw [List.getElem?_set_ne (by decide)]; exact a4
  have hs := zb_spell b1' c0 c8 b3' zb_W0 (by omega) n k 3000 R (by omega) (by omega) (by omega) hk
  rw [zs_same b2'] at hs
  refine ⟨_, ?_, ⟨_, R.drop n, (zh_set (by decide)).trans b1', c0, c8, c17, by rw [List.length_set]; exact a5, (zh_set (by decide)).trans b3', List.getElem?_set_self (by omega), ?_, (zh_set (by decide)).trans b4', by rw [List.length_set]; exact l1, List.getElem?_set_self (by omega)⟩⟩
  · unfold fM_spells
    rw [zi_T (by decide) a1, cond_true, zh_S a1 (by omega), b1, ← Int32.ofInt_sub]
    exact hs
  · rw [List.length_append, List.length_drop, zb_V, List.length_map, zb_dgl]
    omega
def zb_pT (L : List Nat) (n r : Nat) : Nat → Int
  | 0 => 0
  | c + 1 => if L.getD ((n - (c + 1) + r) % n) 0 = L.getD (n - (c + 1)) 0 then zb_pT L n r c else (L.getD ((n - (c + 1) + r) % n) 0 : Int) - (L.getD (n - (c + 1)) 0 : Int)
def zb_pL (L : List Nat) (n : Nat) : Nat → Bool
  | 0 => true
  | c + 1 => if 0 ≤ zb_pT L n (n - (c + 1)) n then zb_pL L n c else false
def zb_pR (L : List Nat) (n : Nat) : Nat → Nat
  | 0 => n
  | c + 1 => if zb_pT L n (n - (c + 1)) n = 0 then n - (c + 1) else zb_pR L n c
theorem zb_getb {L : List Nat} (hL : ∀ t ∈ L, t ≤ 2) (i : Nat) : L.getD i 0 ≤ 2 := by
  rw [List.getD_eq_getElem?_getD]
  cases h : L[i]? with
  | none => exact Nat.zero_le _
  | some t => exact hL t (List.mem_of_getElem? h)
theorem zb_pTb {L : List Nat} (hL : ∀ t ∈ L, t ≤ 2) (n r : Nat) : ∀ c, -2 ≤ zb_pT L n r c ∧ zb_pT L n r c ≤ 2 := by
  intro c
  induction c with
  | zero =>
    show -2 ≤ (0 : Int) ∧ (0 : Int) ≤ 2
    omega
  | succ c ih =>
    rw [zb_pT]
    have h1 := zb_getb hL ((n - (c + 1) + r) % n)
    have h2 := zb_getb hL (n - (c + 1))
    split
    · exact ih
    · omega
theorem zb_pRb (L : List Nat) (n : Nat) : ∀ c, zb_pR L n c ≤ n := by
  intro c
  induction c with
  | zero => exact Nat.le_refl n
  | succ c ih =>
    rw [zb_pR]
    split
    · omega
    · exact ih
theorem zb_mod7 (n s : Nat) (hn : 1 ≤ n ∧ n ≤ 7) (hs : s < 16) : Int32.ofInt (s : Int) - Int32.ofInt (s : Int) / Int32.ofInt (n : Int) * Int32.ofInt (n : Int) = Int32.ofInt ((s % n : Nat) : Int) := by
  have h := List.all_eq_true.mp (show ((List.range 8).all fun n => (List.range 16).all fun s => Nat.beq n 0 || decide (Int32.ofInt ((s : Nat) : Int) - Int32.ofInt ((s : Nat) : Int) / Int32.ofInt ((n : Nat) : Int) * Int32.ofInt ((n : Nat) : Int) = Int32.ofInt ((s % n : Nat) : Int))) = true by decide +kernel) n (List.mem_range.mpr (by omega))
  have h2 := List.all_eq_true.mp h s (List.mem_range.mpr (by omega))
  rw [Bool.or_eq_true] at h2
  rcases h2 with h2 | h2
  · have := Nat.eq_of_beq_eq_true h2
    omega
  · exact of_decide_eq_true h2
theorem zb_row {L : List Nat} {R : List Value} {i : Nat} (hi : i < L.length) : (zb_V L ++ R)[i]? = some (.int (Int32.ofInt ((L.getD i 0 : Nat) : Int))) := by
  rw [List.getElem?_append_left (by rw [zb_V, List.length_map]; exact hi), zb_V, List.getElem?_map, List.getD_eq_getElem?_getD, List.getElem?_eq_getElem hi]
  rfl
theorem zb_turned {h : zH} {w : Int64} {n r : Nat} {L : List Nat} (hn : 1 ≤ n ∧ n ≤ 7) (hr : r ≤ 7) (hL : ∀ t ∈ L, t ≤ 2) (hl : L.length = n) (H : zb_qk h w n L) : ∀ c f : Nat, c ≤ n → c < f → fM_turned_2 3000 f 232 (Int32.ofInt (r : Int)) (Int32.ofInt ((n - c : Nat) : Int)) h = some (Int32.ofInt (zb_pT L n r c), h) := by
  obtain ⟨vs, R, a1, a2, a3, a4, a5, a6, a7, a8, a9, a10, a11⟩ := H
  have nn : ¬ (Int32.ofInt (n : Int) = Int32.ofInt 0) := by
    intro h
    have h := congrArg Int32.toInt h
    rw [zqo_i _ (by omega), zqo_i _ (by omega)] at h
    omega
  intro c
  induction c with
  | zero =>
    intro f h1 h2
    obtain ⟨m, rfl⟩ : ∃ m, f = m + 1 := ⟨f - 1, by omega⟩
    rw [fM_turned_2, zh_I (by decide) a1 a11, b1, zqo_ge _ _ (by omega) (by omega), decide_eq_true (by omega), cond_true]
    rfl
  | succ c ih =>
    intro f h1 h2
    obtain ⟨m, rfl⟩ : ∃ m, f = m + 1 := ⟨f - 1, by omega⟩
    have g1 := zb_getb hL ((n - (c + 1) + r) % n)
    have g2 := zb_getb hL (n - (c + 1))
    have g3 : (n - (c + 1) + r) % n < n := Nat.mod_lt _ (by omega)
    have s1 : Int32.ofInt ((n - (c + 1) : Nat) : Int) + Int32.ofInt (r : Int) = Int32.ofInt ((n - (c + 1) + r : Nat) : Int) := by
      rw [← Int32.ofInt_add]
      rfl
    rw [fM_turned_2, zh_I (by decide) a1 a11]
    simp only [b1_s]
    rw [zqo_ge _ _ (by omega) (by omega), decide_eq_false (by omega), cond_false, zh_R (by decide) a1 a3]
    simp only [b1_s]
    rw [if_neg nn, s1, zb_mod7 n _ hn (by omega), zh_AI (by decide) a7 (zb_row (by omega)) (by omega)]
    simp only [b1_s]
    rw [zh_AI (by decide) a7 (zb_row (by omega)) (by omega)]
    simp only [b1_s]
    rw [zqo_eq _ _ (by omega) (by omega), zb_pT]
    by_cases he : L.getD ((n - (c + 1) + r) % n) 0 = L.getD (n - (c + 1)) 0
    · rw [decide_eq_true (by omega), cond_true, if_pos he, zh_inc, show n - (c + 1) + 1 = n - c by omega]
      exact ih m (by omega) (by omega)
    · rw [decide_eq_false (by omega), cond_false, if_neg he, Int32.ofInt_sub]
theorem zb_turn {h : zH} {w : Int64} {n r : Nat} {L : List Nat} (hn : 1 ≤ n ∧ n ≤ 7) (hr : r ≤ 7) (hL : ∀ t ∈ L, t ≤ 2) (hl : L.length = n) (H : zb_qk h w n L) : fM_turned 3000 232 (Int32.ofInt (r : Int)) h = some (Int32.ofInt (zb_pT L n r n), h) := by
  have h1 := zb_turned hn hr hL hl H n 3000 (Nat.le_refl n) (by omega)
  obtain ⟨vs, R, a1, _⟩ := H
  unfold fM_turned
  rw [zi_T (by decide) a1, cond_true]
  rw [show ((n - n : Nat) : Int) = 0 by omega] at h1
  exact h1
theorem zb_least {h : zH} {w : Int64} {n : Nat} {L : List Nat} (hn : 1 ≤ n ∧ n ≤ 7) (hL : ∀ t ∈ L, t ≤ 2) (hl : L.length = n) (H : zb_qk h w n L) : fM_isLeastRow 3000 232 h = some (cond (zb_pL L n (n - 1)) (Int32.ofInt 1) (Int32.ofInt 0), h) := by
  have key : ∀ c f : Nat, c < n → c < f → fM_isLeastRow_2 3000 f 232 (Int32.ofInt ((n - c : Nat) : Int)) h = some (cond (zb_pL L n c) (Int32.ofInt 1) (Int32.ofInt 0), h) := by
    have H0 := H
    obtain ⟨vs, R, a1, a2, a3, a4, a5, a6, a7, a8, a9, a10, a11⟩ := H
    intro c
    induction c with
    | zero =>
      intro f h1 h2
      obtain ⟨m, rfl⟩ : ∃ m, f = m + 1 := ⟨f - 1, by omega⟩
      rw [fM_isLeastRow_2, zh_I (by decide) a1 a11]
      simp only [b1_s]
      rw [zqo_ge _ _ (by omega) (by omega), decide_eq_true (by omega), cond_true, zqo_le _ _ (by omega) (by decide), decide_eq_false (by omega)]
      rfl
    | succ c ih =>
      intro f h1 h2
      obtain ⟨m, rfl⟩ : ∃ m, f = m + 1 := ⟨f - 1, by omega⟩
      have hb := zb_pTb hL n (n - (c + 1)) n
      rw [fM_isLeastRow_2, zh_I (by decide) a1 a11]
      simp only [b1_s]
      rw [zqo_ge _ _ (by omega) (by omega), decide_eq_false (by omega), cond_false, zb_turn hn (by omega) hL hl H0, b2, zqo_ge _ _ (by omega) (by decide), zb_pL]
      by_cases he : 0 ≤ zb_pT L n (n - (c + 1)) n
      · rw [decide_eq_true he, cond_true, if_pos he, zh_inc, show n - (c + 1) + 1 = n - c by omega]
        exact ih m (by omega) (by omega)
      · rw [decide_eq_false he, cond_false, if_neg he]
        rfl
  have h1 := key (n - 1) 3000 (by omega) (by omega)
  obtain ⟨vs, R, a1, _⟩ := H
  unfold fM_isLeastRow
  rw [zi_T (by decide) a1, cond_true]
  rw [show n - (n - 1) = 1 by omega] at h1
  exact h1
theorem zb_root {h : zH} {w : Int64} {n : Nat} {L : List Nat} (hn : 1 ≤ n ∧ n ≤ 7) (hL : ∀ t ∈ L, t ≤ 2) (hl : L.length = n) (H : zb_qk h w n L) : fM_rootLength 3000 232 h = some (Int32.ofInt ((zb_pR L n (n - 1) : Nat) : Int), h) := by
  have key : ∀ c f : Nat, c < n → c < f → fM_rootLength_2 3000 f 232 (Int32.ofInt ((n - c : Nat) : Int)) h = some (Int32.ofInt ((zb_pR L n c : Nat) : Int), h) := by
    have H0 := H
    obtain ⟨vs, R, a1, a2, a3, a4, a5, a6, a7, a8, a9, a10, a11⟩ := H
    intro c
    induction c with
    | zero =>
      intro f h1 h2
      obtain ⟨m, rfl⟩ : ∃ m, f = m + 1 := ⟨f - 1, by omega⟩
      rw [fM_rootLength_2, zh_I (by decide) a1 a11]
      simp only [b1_s]
      rw [zqo_ge _ _ (by omega) (by omega), decide_eq_true (by omega), cond_true]
      rfl
    | succ c ih =>
      intro f h1 h2
      obtain ⟨m, rfl⟩ : ∃ m, f = m + 1 := ⟨f - 1, by omega⟩
      have hb := zb_pTb hL n (n - (c + 1)) n
      rw [fM_rootLength_2, zh_I (by decide) a1 a11]
      simp only [b1_s]
      rw [zqo_ge _ _ (by omega) (by omega), decide_eq_false (by omega), cond_false, zb_turn hn (by omega) hL hl H0, b2, zqo_ne _ _ (by omega) (by decide), zb_pR]
      by_cases he : zb_pT L n (n - (c + 1)) n = 0
      · rw [decide_eq_true he, Bool.not_true, cond_false, if_pos he]
      · rw [decide_eq_false he, Bool.not_false, cond_true, if_neg he, zh_inc, show n - (c + 1) + 1 = n - c by omega]
        exact ih m (by omega) (by omega)
  have h1 := key (n - 1) 3000 (by omega) (by omega)
  obtain ⟨vs, R, a1, _⟩ := H
  unfold fM_rootLength
  rw [zi_T (by decide) a1, cond_true]
  rw [show n - (n - 1) = 1 by omega] at h1
  exact h1
theorem zb_power {h : zH} {w : Int64} {n : Nat} (hn : n ≤ 7) (H : zb_q h w) : fM_power 3000 232 (Int32.ofInt (n : Int)) h = some (Int32.ofInt ((3 ^ n : Nat) : Int), h) := by
  obtain ⟨vs, R, a1, a2, a3, a4, a5, a6, a7, a8, a9, a10⟩ := H
  have p7 : ∀ i, i ≤ 7 → 3 ^ i ≤ 2187 := fun i hi => Nat.le_trans (Nat.pow_le_pow_right (by decide) hi) (by decide)
  have key : ∀ c f : Nat, c ≤ n → c < f → fM_power_4 3000 f 232 (Int32.ofInt (n : Int)) (Int32.ofInt ((3 ^ (n - c) : Nat) : Int)) (Int32.ofInt ((n - c : Nat) : Int)) h = some (Int32.ofInt ((3 ^ n : Nat) : Int), h) := by
    intro c
    induction c with
    | zero =>
      intro f h1 h2
      obtain ⟨m, rfl⟩ : ∃ m, f = m + 1 := ⟨f - 1, by omega⟩
      rw [fM_power_4, zqo_ge _ _ (by omega) (by omega), decide_eq_true (by omega), cond_true]
      rfl
    | succ c ih =>
      intro f h1 h2
      obtain ⟨m, rfl⟩ : ∃ m, f = m + 1 := ⟨f - 1, by omega⟩
      have q := p7 (n - (c + 1)) (by omega)
      have ih := ih m (by omega) (by omega)
      have hv2 : 3 ^ (n - c) = 3 ^ (n - (c + 1)) * 3 := by rw [show n - c = (n - (c + 1)) + 1 by omega, Nat.pow_succ]
      rw [hv2] at ih
      generalize 3 ^ (n - (c + 1)) = v at q ih ⊢
      rw [fM_power_4, zqo_ge _ _ (by omega) (by omega), decide_eq_false (by omega), cond_false, zj_gt _ 4096 (by decide), zqo_i _ (by omega), decide_eq_false (by omega), cond_false, zh_R (by decide) a1 a2, b1, show (Int32.ofInt 0) = Int32.ofInt ((0 : Nat) : Int) from rfl, zh_AI (by decide) a6 zb_W0 (by decide), b1, zh_inc, ← Int32.ofInt_mul, show (v : Int) * 3 = ((v * 3 : Nat) : Int) by omega, show n - (c + 1) + 1 = n - c by omega]
      exact ih
  have h1 := key n 3000 (Nat.le_refl n) (by omega)
  unfold fM_power
  rw [zi_T (by decide) a1, cond_true]
  rw [show n - n = 0 by omega] at h1
  exact h1
