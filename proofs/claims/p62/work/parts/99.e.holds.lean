/-! p62: holds: what the law asks of every state. -/
section YHH
variable {N q : Nat} {h : zH} {now snap : zA} {hist : List zA} {sv : Int} {inp : List Nat} {rep : zvP}
theorem yh_356 (V : zv h now hist snap sv inp rep) (hN : 3000 ≤ N) {kept : Nat} (hk : kept ≤ 40) : fL_holds_356 N 0 (Int32.ofInt (now.2.1.length : Int)) (Int32.ofInt (kept : Int)) h = some (Int32.ofInt 1, h) := by
  have ok := (zv_open V).1
  have o2 := ok.2.1
  have o8 := ok.2.2.2.1
  have e : zw_wF now.2.1 (now.2.1.length : Int) = -1 := by
    unfold zw_wF
    rw [if_pos (Or.inr (Int.le_refl _))]
  unfold fL_holds_356
  rw [zqo_gt _ _ (by omega) (by omega), decide_eq_false (by omega), cond_false, zV_keptCount V, b2_s, zqo_gt _ _ (by omega) (by omega), decide_eq_false (by omega), cond_false, zV_factorOf V hN _ (by omega), b2_s, e]
  rfl
theorem yh_269 (V : zv h now hist snap sv inp rep) (hN : 3000 ≤ N) {ls : Int} (hls : zw_ext now.2.1 (-1) = ls) (hb : -1 ≤ ls ∧ ls < 200) (hm : ∀ m', (zw_fs now.2.1).length = m' + 1 → (((zw_fs now.2.1).getD m' (0, 0)).1 : Int) = ls) : ∀ c f k kept : Nat, k + c = now.2.2.length → c < f → kept ≤ 40 → fL_holds_269 N f 0 (Int32.ofInt (now.2.1.length : Int)) (Int32.ofInt (((zw_fs now.2.1).length : Nat) : Int)) (Int32.ofInt (now.2.1.length : Int)) (Int32.ofInt ls) (Int32.ofInt (kept : Int)) (Int32.ofInt (k : Int)) h = some (Int32.ofInt 1, h) := by
  have ok := (zv_open V).1
  have o2 := ok.2.1
  have o8 := ok.2.2.2.1
  have lm : (zw_fs now.2.1).length ≤ now.2.1.length := zw_itl _ _ _ _
  intro c
  induction c with
  | zero =>
    intro f k kept h1 h2 h3
    obtain ⟨f, rfl⟩ : ∃ f', f = f' + 1 := ⟨f - 1, by omega⟩
    rw [fL_holds_269, zV_keptCount V, b2_s, zqo_ge _ _ (by omega) (by omega), decide_eq_true (by omega), cond_true, zqo_ne _ _ (by omega) (by omega), decide_eq_true rfl, Bool.not_true, cond_false, zV_leastSuffix V hN, b2_s, hls, zqo_ne _ _ (by omega) (by omega), decide_eq_true rfl, Bool.not_true, cond_false, zqo_eq _ _ (by omega) (by omega)]
    by_cases e : (zw_fs now.2.1).length = 0
    · rw [decide_eq_true (by omega), cond_true]
      exact yh_356 V hN h3
    · obtain ⟨m', hm'⟩ : ∃ m', (zw_fs now.2.1).length = m' + 1 := ⟨(zw_fs now.2.1).length - 1, by omega⟩
      rw [decide_eq_false (by omega), cond_false, zw_sub, show (((zw_fs now.2.1).length : Nat) : Int) - 1 = (m' : Int) by omega, zV_factorStart V hN (k := m') (by omega) (by omega), bN_s, hm m' hm', zqo_ne _ _ (by omega) (by omega), decide_eq_true rfl, Bool.not_true, cond_false]
      exact yh_356 V hN h3
  | succ c ih =>
    intro f k kept h1 h2 h3
    obtain ⟨f, rfl⟩ : ∃ f', f = f' + 1 := ⟨f - 1, by omega⟩
    have hk : k < now.2.2.length := by omega
    have ow := ok.2.2.2.2 (now.2.2.getD k []) (by rw [List.getD_eq_getElem?_getD, List.getElem?_eq_getElem hk]; exact List.getElem_mem hk)
    have hx : (if Int32.ofInt (kept : Int) < Int32.ofInt ((now.2.2.getD k []).length : Int) then Int32.ofInt ((now.2.2.getD k []).length : Int) else Int32.ofInt (kept : Int)) = Int32.ofInt ((max kept (now.2.2.getD k []).length : Nat) : Int) := zw_max _ _ (by omega) (by omega)
    rw [fL_holds_269, zV_keptCount V, b2_s, zqo_ge _ _ (by omega) (by omega), decide_eq_false (by omega), cond_false, zV_keptLength V hk (by omega), bN_s, zV_keptLength V hk (by omega), bN_s, zqo_lt _ _ (by omega) (by omega), decide_eq_false (by omega), cond_false, zV_keptLength V hk (by omega), bN_s, zV_keptLetter V hk (by omega) _ (by omega), bN_s, zw_go (Or.inr (Int.le_refl _))]
    show fL_holds_269 N f 0 _ _ _ _ (if _ then _ else _) (Int32.ofInt (k : Int) + Int32.ofInt 1) h = _
    rw [hx, zw_add, show (k : Int) + 1 = ((k + 1 : Nat) : Int) by omega]
    exact ih f (k + 1) _ (by omega) (by omega) (by omega)
/-- the least ending, by looking at all -/
theorem yh_224 (V : zv h now hist snap sv inp rep) (R : yR h q (yT now.2.1)) (hN : 3000 ≤ N) : ∀ c f k : Nat, ∀ b : Int, k + c = now.2.1.length → c < f → ((k = 0 ∧ b = -1) ∨ ∃ b' : Nat, b = (b' : Int) ∧ b' < k ∧ zm_Xt now.2.1 (-1) (fun j => j < k) b') → fL_holds_224 N f 0 q (Int32.ofInt (now.2.1.length : Int)) (Int32.ofInt (((zw_fs now.2.1).length : Nat) : Int)) (Int32.ofInt (now.2.1.length : Int)) (Int32.ofInt b) (Int32.ofInt 0) (Int32.ofInt (k : Int)) h = some (Int32.ofInt 1, h) := by
  have ok := (zv_open V).1
  have o2 := ok.2.1
  have o8 := ok.2.2.2.1
  have hv : ∀ v ∈ now.2.1, v < 256 := fun v hv => by
    have := ok.2.2.1 v hv
    have := ok.1
    omega
  intro c
  induction c with
  | zero =>
    intro f k b h1 h2 h3
    obtain ⟨f, rfl⟩ : ∃ f', f = f' + 1 := ⟨f - 1, by omega⟩
    have hk : k = now.2.1.length := by omega
    subst hk
    rw [fL_holds_224, zqo_ge _ _ (by omega) (by omega), decide_eq_true (Int.le_refl _), cond_true]
    have hls : zw_ext now.2.1 (-1) = b := by
      rcases h3 with ⟨e1, e2⟩ | ⟨b', e1, e2, e3⟩
      · unfold zw_ext
        rw [if_pos e1, e2]
      · have e0 : zm_Xt now.2.1 (-1) (fun j => now.2.1.length - 1 ≤ j) (now.2.1.length - 1) := fun j (hj : now.2.1.length - 1 ≤ j) hl hx => absurd (show j = now.2.1.length - 1 by omega) hx
        have ex := zm_exE (Or.inl rfl) (now.2.1.length - 1) (now.2.1.length - 1) (Nat.le_refl _) (by omega) e0
        have eb := zw_exb now.2.1 (-1) (now.2.1.length - 1) (now.2.1.length - 1) (by omega) (by omega)
        unfold zw_ext
        rw [if_neg (by omega), zm_Xtu (Or.inl rfl) eb e2 ex (fun j _ hl hx => e3 j hl hl hx), e1]
    refine yh_269 V hN hls ?_ ?_ now.2.2.length N 0 0 (by omega) (by omega) (by omega)
    · rcases h3 with ⟨e1, e2⟩ | ⟨b', e1, e2, e3⟩ <;> omega
    · intro m' hm'
      have hn : 0 < now.2.1.length := by
        have lm : (zw_fs now.2.1).length ≤ now.2.1.length := zw_itl _ _ _ _
        omega
      have e := zm_last hn
      rw [hls, hm', show m' + 1 - 1 = m' by omega] at e
      exact e.symm
  | succ c ih =>
    intro f k b h1 h2 h3
    obtain ⟨f, rfl⟩ : ∃ f', f = f' + 1 := ⟨f - 1, by omega⟩
    have step : fL_holds_256 N (fL_holds_224 N f) 0 q (Int32.ofInt (now.2.1.length : Int)) (Int32.ofInt (((zw_fs now.2.1).length : Nat) : Int)) (Int32.ofInt (now.2.1.length : Int)) (Int32.ofInt 0) (Int32.ofInt (k : Int)) h = fL_holds_224 N f 0 q (Int32.ofInt (now.2.1.length : Int)) (Int32.ofInt (((zw_fs now.2.1).length : Nat) : Int)) (Int32.ofInt (now.2.1.length : Int)) (Int32.ofInt (k : Int)) (Int32.ofInt 0) (Int32.ofInt ((k + 1 : Nat) : Int)) h := by
      unfold fL_holds_256 fL_holds_260
      rw [zw_add]
      rfl
    rw [fL_holds_224, zqo_ge _ _ (by omega) (by omega), decide_eq_false (by omega), cond_false, zqo_eq _ _ (by rcases h3 with ⟨e1, e2⟩ | ⟨b', e1, e2, e3⟩ <;> omega) (by omega)]
    rcases h3 with ⟨e1, e2⟩ | ⟨b', e1, e2, e3⟩
    · rw [decide_eq_true e2, cond_true, step]
      exact ih f (k + 1) _ (by omega) (by omega) (Or.inr ⟨k, rfl, by omega, fun j (hj : j < k + 1) hl hx => absurd (show j = k by omega) hx⟩)
    · rw [decide_eq_false (by omega), cond_false, e1, zw_sub, zw_sub, show (now.2.1.length : Int) - (k : Int) = ((now.2.1.length - k : Nat) : Int) by omega, show (now.2.1.length : Int) - (b' : Int) = ((now.2.1.length - b' : Nat) : Int) by omega, yO_order R hv (by omega) (by omega) (show k + (now.2.1.length - k) ≤ now.2.1.length by omega) (show b' + (now.2.1.length - b') ≤ now.2.1.length by omega), b2_s, show k + (now.2.1.length - k) = now.2.1.length by omega, show b' + (now.2.1.length - b') = now.2.1.length by omega]
      obtain ⟨s1, s2⟩ := zm_Xts (Or.inl rfl) (show b' < now.2.1.length by omega) (show k < now.2.1.length by omega) (show b' ≠ k by omega) e3 e2
      have cb := zw_cmpb (zw_p now.2.1 k now.2.1.length) (zw_p now.2.1 b' now.2.1.length)
      rw [zqo_ge _ _ (by omega) (by omega)]
      by_cases e : zw_cmp (zw_p now.2.1 k now.2.1.length) (zw_p now.2.1 b' now.2.1.length) = -1
      · rw [decide_eq_false (by omega), cond_false, step]
        exact ih f (k + 1) _ (by omega) (by omega) (Or.inr ⟨k, rfl, by omega, fun j (hj : j < k + 1) hl hx => s1 e j (by
          by_cases ej : j = k
          · exact Or.inl ej
          · exact Or.inr (show j < k by omega)) hl hx⟩)
      · rw [decide_eq_true (by omega), cond_true]
        show fL_holds_224 N f 0 q _ _ _ _ _ (Int32.ofInt (k : Int) + Int32.ofInt 1) h = _
        rw [zw_add, show (k : Int) + 1 = ((k + 1 : Nat) : Int) by omega]
        exact ih f (k + 1) _ (by omega) (by omega) (Or.inr ⟨b', rfl, by omega, fun j (hj : j < k + 1) hl hx => s2 e j (by
          by_cases ej : j = k
          · exact Or.inl ej
          · exact Or.inr (show j < k by omega)) hl hx⟩)
/-- the letters of one factor -/
theorem yh_150 (V : zv h now hist snap sv inp rep) (R : yR h q (yT now.2.1)) (hN : 3000 ≤ N) {k73 : Nat → Nat → Int32 → Int32 → Int32 → Int32 → zH → Option (Int32 × zH)} {n m : Int32} {s e fI : Nat} (he : e ≤ now.2.1.length) (hse : s ≤ e) (hf : fI < 200) (ho : ∀ p, s ≤ p → p < e → zw_wF now.2.1 (p : Int) = (fI : Int)) : ∀ c f p : Nat, p + c = e → s ≤ p → c < f → fL_holds_150 N f k73 0 q n m (Int32.ofInt (s : Int)) (Int32.ofInt (fI : Int)) (Int32.ofInt ((e : Int) - (s : Int))) (Int32.ofInt (p : Int)) h = k73 0 q n m (Int32.ofInt (e : Int)) (Int32.ofInt ((fI + 1 : Nat) : Int)) h := by
  have ok := (zv_open V).1
  have o2 := ok.2.1
  have o1 := ok.1
  have es : Int32.ofInt (s : Int) + Int32.ofInt ((e : Int) - (s : Int)) = Int32.ofInt (e : Int) := by
    rw [zw_add, show (s : Int) + ((e : Int) - (s : Int)) = (e : Int) by omega]
  intro c
  induction c with
  | zero =>
    intro f p h1 h2 h3
    obtain ⟨f, rfl⟩ : ∃ f', f = f' + 1 := ⟨f - 1, by omega⟩
    rw [fL_holds_150, es, zqo_ge _ _ (by omega) (by omega), decide_eq_true (by omega), cond_true, zw_add]
    rfl
  | succ c ih =>
    intro f p h1 h2 h3
    obtain ⟨f, rfl⟩ : ∃ f', f = f' + 1 := ⟨f - 1, by omega⟩
    have hv := zm_get ok.2.2.1 (j := p) (by omega)
    have hg : fAI h q 100 (Int32.ofInt (p : Int)) = some (Int32.ofInt (now.2.1.getD p 0 : Int)) := by rw [yR_get R (by rw [yT_len]; omega), yT_get]
    rw [fL_holds_150, es, zqo_ge _ _ (by omega) (by omega), decide_eq_false (by omega), cond_false, zV_factorOf V hN _ (by omega), b2_s, ho p h2 (by omega), zqo_ne _ _ (by omega) (by omega), decide_eq_true rfl, Bool.not_true, cond_false, hg, b1_s, zqo_lt _ _ (by omega) (by omega), decide_eq_false (by omega), cond_false, b1_s, zV_letters V, b2_s, zw_add, zqo_lt _ _ (by omega) (by omega), decide_eq_true (by omega), cond_true, zw_add, show (p : Int) + 1 = ((p + 1 : Nat) : Int) by omega]
    exact ih f (p + 1) (by omega) (by omega) (by omega)
/-- the factors one behind the other -/
theorem yh_73 (V : zv h now hist snap sv inp rep) (R : yR h q (yT now.2.1)) (hN : 3000 ≤ N) : ∀ c f k a : Nat, k + c = (zw_fs now.2.1).length → c < f → ((k < (zw_fs now.2.1).length → a = ((zw_fs now.2.1).getD k (0, 0)).1) ∧ (k = (zw_fs now.2.1).length → a = now.2.1.length)) → fL_holds_73 N f 0 q (Int32.ofInt (now.2.1.length : Int)) (Int32.ofInt (((zw_fs now.2.1).length : Nat) : Int)) (Int32.ofInt (a : Int)) (Int32.ofInt (k : Int)) h = some (Int32.ofInt 1, h) := by
  have ok := (zv_open V).1
  have o2 := ok.2.1
  have hv : ∀ v ∈ now.2.1, v < 256 := fun v hv => by
    have := ok.2.2.1 v hv
    have := ok.1
    omega
  have lm : (zw_fs now.2.1).length ≤ now.2.1.length := zw_itl _ _ _ _
  obtain ⟨F1, F2, F3⟩ := zm_F now.2.1
  intro c
  induction c with
  | zero =>
    intro f k a h1 h2 h3
    obtain ⟨f, rfl⟩ : ∃ f', f = f' + 1 := ⟨f - 1, by omega⟩
    rw [fL_holds_73, zqo_ge _ _ (by omega) (by omega), decide_eq_true (by omega), cond_true, h3.2 (by omega)]
    exact yh_224 V R hN now.2.1.length N 0 (-1) (by omega) (by omega) (Or.inl ⟨rfl, rfl⟩)
  | succ c ih =>
    intro f k a h1 h2 h3
    obtain ⟨f, rfl⟩ : ∃ f', f = f' + 1 := ⟨f - 1, by omega⟩
    have hk : k < (zw_fs now.2.1).length := by omega
    have ha := h3.1 hk
    obtain ⟨g1, g2, g3⟩ := F1 k hk
    rw [← ha] at g1 g2 g3
    have gb := zw_lEb g1
    have hwF : ∀ p, a ≤ p → p < zw_lE now.2.1 a → zw_wF now.2.1 (p : Int) = (k : Int) := fun p p1 p2 => zm_of hk (by rw [← ha]; exact p1) (by rw [← ha]; exact p2)
    have next : fL_holds_146 N (fL_holds_73 N f) 0 q (Int32.ofInt (now.2.1.length : Int)) (Int32.ofInt (((zw_fs now.2.1).length : Nat) : Int)) (Int32.ofInt (a : Int)) (Int32.ofInt (k : Int)) (Int32.ofInt ((zw_lE now.2.1 a : Int) - (a : Int))) h = some (Int32.ofInt 1, h) := by
      unfold fL_holds_146
      rw [yh_150 V R hN (s := a) (e := zw_lE now.2.1 a) (fI := k) gb.2 (by omega) (by omega) hwF (zw_lE now.2.1 a - a) N a (by omega) (Nat.le_refl _) (by omega)]
      exact ih f (k + 1) (zw_lE now.2.1 a) (by omega) (by omega) ⟨fun z => (g2 z).symm, fun z => g3 z⟩
    have own := yO_lyn (N := N) R hv (by omega) (by omega) (s := a) (n := zw_lE now.2.1 a - a) (by omega) (by omega) (fun j j1 j2 => by
      have := zm_own g1 j1 (show a + j < zw_lE now.2.1 a by omega)
      rw [show a + (zw_lE now.2.1 a - a) = zw_lE now.2.1 a by omega]
      exact this)
    rw [show ((zw_lE now.2.1 a - a : Nat) : Int) = (zw_lE now.2.1 a : Int) - (a : Int) by omega] at own
    rw [fL_holds_73, zqo_ge _ _ (by omega) (by omega), decide_eq_false (by omega), cond_false, zV_factorLength V hN hk (by omega), bN_s, zV_factorStart V hN hk (by omega), bN_s, ← ha, zqo_ne _ _ (by omega) (by omega), decide_eq_true rfl, Bool.not_true, cond_false, own, b2_s]
    show cond (z_cmp .le (Int32.ofInt (k : Int)) (Int32.ofInt 0)) _ _ = _
    rw [zqo_le _ _ (by omega) (by omega)]
    by_cases e : k = 0
    · rw [decide_eq_true (by omega), cond_true]
      exact next
    · obtain ⟨j, rfl⟩ : ∃ j, k = j + 1 := ⟨k - 1, by omega⟩
      obtain ⟨j1, j2, j3⟩ := F1 j (by omega)
      have ea : zw_lE now.2.1 ((zw_fs now.2.1).getD j (0, 0)).1 = a := by rw [ha, j2 hk]
      have fall := zm_ffall j1 (by rw [ea]; exact g1)
      rw [ea] at fall
      have ab := zw_lEb j1
      rw [ea] at ab
      rw [decide_eq_false (by omega), cond_false, zw_sub, show ((j + 1 : Nat) : Int) - 1 = (j : Int) by omega, zV_factorStart V hN (k := j) (by omega) (by omega), bN_s, zV_factorLength V hN (k := j) (by omega) (by omega), bN_s, ea, show (zw_lE now.2.1 a : Int) - (a : Int) = ((zw_lE now.2.1 a - a : Nat) : Int) by omega, show (a : Int) - (((zw_fs now.2.1).getD j (0, 0)).1 : Int) = ((a - ((zw_fs now.2.1).getD j (0, 0)).1 : Nat) : Int) by omega, yO_order R hv (by omega) (by omega) (show a + (zw_lE now.2.1 a - a) ≤ now.2.1.length by omega) (show ((zw_fs now.2.1).getD j (0, 0)).1 + (a - ((zw_fs now.2.1).getD j (0, 0)).1) ≤ now.2.1.length by omega), b2_s, show a + (zw_lE now.2.1 a - a) = zw_lE now.2.1 a by omega, show ((zw_fs now.2.1).getD j (0, 0)).1 + (a - ((zw_fs now.2.1).getD j (0, 0)).1) = a by omega]
      have cb := zw_cmpb (zw_p now.2.1 a (zw_lE now.2.1 a)) (zw_p now.2.1 ((zw_fs now.2.1).getD j (0, 0)).1 a)
      rw [zqo_le _ _ (by omega) (by omega), decide_eq_true (by omega), cond_true, show ((zw_lE now.2.1 a - a : Nat) : Int) = (zw_lE now.2.1 a : Int) - (a : Int) by omega]
      exact next
theorem yh_holds (V : zv h now hist snap sv inp rep) (hN : 3000 ≤ N) (hl : h.length < 900000) : ∃ h', fL_holds N 0 h = some (Int32.ofInt 1, h') ∧ zv h' now hist snap sv inp rep ∧ yG h h' 1 := by
  obtain ⟨h', e, R, V', G⟩ := yW_word (N := N) V (by omega) hl
  refine ⟨h', ?_, V', G⟩
  have ok := (zv_open V).1
  have o2 := ok.2.1
  have lm : (zw_fs now.2.1).length ≤ now.2.1.length := zw_itl _ _ _ _
  obtain ⟨F1, F2, F3⟩ := zm_F now.2.1
  have e73 := yh_73 V' R hN (zw_fs now.2.1).length N 0 0 (by omega) (by omega) ⟨fun z => (F2 (by omega)).2.symm, fun z => by
    by_cases hn : 0 < now.2.1.length
    · have := (F2 hn).1
      omega
    · omega⟩
  have e47 : ∀ b : Int32, fL_holds_47 N 0 h.length (Int32.ofInt (now.2.1.length : Int)) (Int32.ofInt (((zw_fs now.2.1).length : Nat) : Int)) (Int32.ofInt 0) b b h' = some (Int32.ofInt 1, h') := by
    intro b
    unfold fL_holds_47
    rw [show z_cmp .ne b b = false from (by show (!decide (b = b)) = false; rw [decide_eq_true rfl]; rfl), cond_false, zV_letterAt V' _ (by omega), b2_s, zw_go (Or.inr (Int.le_refl _))]
    show b2 (fB_letterAt N 0 (Int32.ofInt (-1)) h') _ = _
    rw [zV_letterAt V' (-1) (by omega), b2_s, zw_go (Or.inl (by omega))]
    exact e73
  unfold fL_holds
  rw [e, b2_s]
  show b1 (fN h' h.length 100) _ = _
  rw [yR_len R, b1_s, yT_len, zV_factorCount V' hN, b2_s, zV_violations V' hN, b2_s]
  show cond (z_cmp .gt (Int32.ofInt (now.2.1.length : Int)) (Int32.ofInt 120)) _ _ = _
  rw [zqo_gt _ _ (by omega) (by omega), decide_eq_false (by omega), cond_false, zqo_ne _ _ (by omega) (by omega)]
  by_cases hn : now.2.1.length = 0
  · rw [decide_eq_true (by have := F3 hn; omega), Bool.not_true, cond_false]
    unfold fL_holds_38
    rw [zqo_ne _ _ (by omega) (by omega), decide_eq_true (by omega), Bool.not_true, cond_false]
    exact e47 _
  · rw [decide_eq_false (by have := (F2 (by omega)).1; omega), Bool.not_false, cond_true]
    unfold fL_holds_38
    rw [zqo_ne _ _ (by omega) (by omega), decide_eq_false (by omega), Bool.not_false, cond_true]
    exact e47 _
end YHH
