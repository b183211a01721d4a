/-! THE CLASS'S STATES: the shelf emptied, joined. -/
theorem zw_pall (l : List Nat) : zw_p l 0 l.length = l := by
  unfold zw_p
  rw [List.drop_zero, Nat.sub_zero, List.take_of_length_le (Nat.le_refl _)]
theorem zs_bit (m i : Nat) (hm : m < 256) (hi : i < 8) : z_cmp .ne ((Int32.ofInt (m : Int) >>> (Int32.ofInt (i : Int) &&& 31)) &&& Int32.ofInt 1) (Int32.ofInt 0) = m.testBit i := by
  have h := List.all_eq_true.mp (show ((List.range 256).all fun m => (List.range 8).all fun i => z_cmp .ne ((Int32.ofInt ((m : Nat) : Int) >>> (Int32.ofInt ((i : Nat) : Int) &&& 31)) &&& Int32.ofInt 1) (Int32.ofInt 0) == m.testBit i) = true by decide +kernel) m (List.mem_range.mpr hm)
  exact eq_of_beq (List.all_eq_true.mp h i (List.mem_range.mpr hi))
theorem zs_or (m i : Nat) (hm : m < 256) (hi : i < 8) : Int32.ofInt (m : Int) ||| (Int32.ofInt 1 <<< (Int32.ofInt (i : Int) &&& 31)) = Int32.ofInt ((m ||| (1 <<< i) : Nat) : Int) := by
  have h := List.all_eq_true.mp (show ((List.range 256).all fun m => (List.range 8).all fun i => decide (Int32.ofInt ((m : Nat) : Int) ||| (Int32.ofInt 1 <<< (Int32.ofInt ((i : Nat) : Int) &&& 31)) = Int32.ofInt ((m ||| (1 <<< i) : Nat) : Int))) = true by decide +kernel) m (List.mem_range.mpr hm)
  exact of_decide_eq_true (List.all_eq_true.mp h i (List.mem_range.mpr hi))
theorem zs_orb (m i k : Nat) (hm : m < 256) (hi : i < 8) (hk : k < 8) : (m ||| (1 <<< i)) < 256 ∧ (m ||| (1 <<< i)).testBit k = (m.testBit k || decide (k = i)) := by
  have h := List.all_eq_true.mp (show ((List.range 256).all fun m => (List.range 8).all fun i => (List.range 8).all fun k => decide ((m ||| (1 <<< i)) < 256 ∧ (m ||| (1 <<< i)).testBit k = (m.testBit k || decide (k = i)))) = true by decide +kernel) m (List.mem_range.mpr hm)
  exact of_decide_eq_true (List.all_eq_true.mp (List.all_eq_true.mp h i (List.mem_range.mpr hi)) k (List.mem_range.mpr hk))
/-- letters on the shelf: c words from i on, those in m left out -/
def zs_us (S : Nat → List Nat) (m : Nat) : Nat → Nat → Nat
  | 0, _ => 0
  | c + 1, i => (if m.testBit i = true then 0 else (S i).length) + zs_us S m c (i + 1)
theorem zs_us0 (S : Nat → List Nat) (m j : Nat) (hm : m < 256) (hj : j < 8) : ∀ c i, i + c ≤ 8 → j < i → zs_us S (m ||| (1 <<< j)) c i = zs_us S m c i := by
  intro c
  induction c with
  | zero => intro i h1 h2; rfl
  | succ c ih =>
    intro i h1 h2
    rw [zs_us, zs_us, ih (i + 1) (by omega) (by omega), (zs_orb m j i hm hj (by omega)).2, decide_eq_false (show ¬ i = j by omega), Bool.or_false]
theorem zs_us1 (S : Nat → List Nat) (m j : Nat) (hm : m < 256) (hj : m.testBit j = false) : ∀ c i, i + c ≤ 8 → i ≤ j → j < i + c → zs_us S (m ||| (1 <<< j)) c i + (S j).length = zs_us S m c i := by
  intro c
  induction c with
  | zero => intro i h1 h2 h3; omega
  | succ c ih =>
    intro i h1 h2 h3
    rw [zs_us, zs_us, (zs_orb m j i hm (by omega) (by omega)).2]
    by_cases e : i = j
    · subst e
      rw [decide_eq_true rfl, Bool.or_true, if_pos rfl, hj, if_neg (by decide), zs_us0 S m i hm (by omega) c (i + 1) (by omega) (by omega)]
      omega
    · have := ih (i + 1) (by omega) (by omega) (by omega)
      rw [decide_eq_false e, Bool.or_false]
      omega
/-- the first greatest word that isn't in m: c words from i on, g so far -/
def zs_st (S : Nat → List Nat) (i : Nat) : Option Nat → Option Nat
  | none => some i
  | some j => if zw_cmp (S i) (S j) = 1 then some i else some j
def zs_g (S : Nat → List Nat) (m : Nat) : Nat → Nat → Option Nat → Option Nat
  | 0, _, g => g
  | c + 1, i, g => zs_g S m c (i + 1) (if m.testBit i = true then g else zs_st S i g)
theorem zs_gb (S : Nat → List Nat) (m : Nat) : ∀ c i g, (∀ j, g = some j → j < i ∧ m.testBit j = false) → ∀ j, zs_g S m c i g = some j → j < i + c ∧ m.testBit j = false := by
  intro c
  induction c with
  | zero =>
    intro i g h j hj
    exact h j hj
  | succ c ih =>
    intro i g h j hj
    rw [zs_g] at hj
    have := ih (i + 1) _ (fun k hk => by
      cases hb : m.testBit i with
      | true =>
        rw [hb, if_pos rfl] at hk
        have := h k hk
        exact ⟨by omega, this.2⟩
      | false =>
        rw [hb, if_neg (by decide)] at hk
        cases g with
        | none =>
          cases hk
          exact ⟨by omega, hb⟩
        | some x =>
          rw [zs_st] at hk
          split at hk
          · cases hk
            exact ⟨by omega, hb⟩
          · have h7 := h _ rfl
            cases hk
            exact ⟨by omega, h7.2⟩) j hj
    exact ⟨by omega, this.2⟩
def zs_gi : Option Nat → Int
  | none => -1
  | some j => (j : Int)
def zs_gr (q : Nat) : Option Nat → Option Nat
  | none => none
  | some j => some (q + 4 + 2 * j)
/-- joined: c words more -/
def zs_jn (S : Nat → List Nat) (K : Nat) : Nat → Nat → List Nat → List Nat
  | 0, _, t => t
  | c + 1, m, t => match zs_g S m K 0 none with
    | none => zs_jn S K c m t
    | some j => zs_jn S K c (m ||| (1 <<< j)) (t ++ S j)
section ZSH
variable {N q L K : Nat} {T : List Nat}
theorem zs_take2 {S : Nat → List Nat} (hN : 1000 ≤ N) {k : Nat} : ∀ (c f i : Nat) (h : zH) (S0 : Nat → List Nat), zs_S h q L T S0 K → i + c + 1 = K → c < f → k ≤ i → (∀ j, j < 8 → S0 j = if k ≤ j ∧ j < i then S (j + 1) else S j) → ∃ h' S', fS_takeFromShelf_2 N f q (Int32.ofInt (k : Int)) (Int32.ofInt (i : Int)) h = some ((), h') ∧ zs_S h' q L T S' (K - 1) ∧ (∀ j, j < K - 1 → S' j = if k ≤ j then S (j + 1) else S j) ∧ zs_F h h' q := by
  intro c
  induction c with
  | zero =>
    intro f i h S0 H h1 h2 h3 h4
    obtain ⟨g, rfl⟩ : ∃ g, f = g + 1 := ⟨f - 1, by omega⟩
    have hK := H.2.2.2.2.2.1
    obtain ⟨h5, e5, H5, F5⟩ := zs_setK H (K' := K - 1) (by omega)
    refine ⟨h5, S0, ?_, H5, ?_, F5⟩
    · rw [fS_takeFromShelf_2, zs_K H, b1_s, zw_sub, zqo_ge _ _ (by omega) (by omega), decide_eq_true (by omega), cond_true, zqo_lt _ _ (by omega) (by decide), decide_eq_false (by omega), cond_false, b1_s, zqo_ge _ _ (by omega) (by omega), decide_eq_false (by omega), cond_false, b1_s, zw_sub, show (K : Int) - 1 = ((K - 1 : Nat) : Int) by omega, e5, b1_s]
    · intro j hj
      rw [h4 j (by omega)]
      by_cases e : k ≤ j
      · rw [if_pos ⟨e, by omega⟩, if_pos e]
      · rw [if_neg (fun x => e x.1), if_neg e]
  | succ c ih =>
    intro f i h S0 H h1 h2 h3 h4
    obtain ⟨g, rfl⟩ : ∃ g, f = g + 1 := ⟨f - 1, by omega⟩
    have hK := H.2.2.2.2.2.1
    have Wi := H.2.2.2.2.1 i (by omega)
    have Wj := H.2.2.2.2.1 (i + 1) (by omega)
    have hl := Wj.2.2.2.1
    obtain ⟨h5, e5, W5, F5⟩ := zw_copy (N := N) (show zw_d (q + 4 + 2 * (i + 1)) (q + 4 + 2 * i) by unfold zw_d; omega) Wi Wj hl (by omega)
    obtain ⟨H6, F6⟩ := zs_word H (show i < 8 by omega) W5 F5
    obtain ⟨h7, S7, e7, H7, r7, F7⟩ := ih g (i + 1) h5 _ H6 (by omega) (by omega) (by omega) (fun j hj => by
      show (if j = i then S0 (i + 1) else S0 j) = _
      by_cases e : j = i
      · subst e
        rw [if_pos rfl, if_pos (by omega), h4 (j + 1) (by omega), if_neg (by omega)]
      · rw [if_neg e, h4 j hj]
        by_cases e2 : k ≤ j ∧ j < i
        · rw [if_pos e2, if_pos (by omega)]
        · rw [if_neg e2, if_neg (by omega)])
    refine ⟨h7, S7, ?_, H7, r7, zs_Ft F6 F7⟩
    rw [fS_takeFromShelf_2, zs_K H, b1_s, zw_sub, zqo_ge _ _ (by omega) (by omega), decide_eq_false (by omega), cond_false, zs_at H _ (by omega), b2, if_pos (by omega)]
    show b2 (fS_keptAt N q (Int32.ofInt (i : Int) + Int32.ofInt 1) h) _ = _
    rw [zh_inc, zs_at H _ (by omega), b2, if_pos (by omega)]
    show cond (fX h (q + 4 + 2 * i)) (cond (fX h (q + 4 + 2 * (i + 1))) (b2 (fW_copyFrom N (q + 4 + 2 * i) (q + 4 + 2 * (i + 1)) h) _) none) none = _
    rw [zs_X H (by omega), cond_true, zs_X H (by omega), cond_true, e5, b2]
    unfold fS_takeFromShelf_42
    rw [zh_inc]
    exact e7
theorem zs_take {h : zH} {S : Nat → List Nat} (hN : 1000 ≤ N) (H : zs_S h q L T S K) {k : Nat} (hk : k < K) : ∃ h' S', fS_takeFromShelf N q (Int32.ofInt (k : Int)) h = some ((), h') ∧ zs_S h' q L T S' (K - 1) ∧ (∀ j, j < K - 1 → S' j = if k ≤ j then S (j + 1) else S j) ∧ zs_F h h' q := by
  have hK := H.2.2.2.2.2.1
  obtain ⟨h', S', e, H', r, F⟩ := zs_take2 (N := N) (S := S) hN (K - 1 - k) N k h S H (by omega) (by omega) (Nat.le_refl k) (fun j hj => by rw [if_neg (by omega)])
  refine ⟨h', S', ?_, H', r, F⟩
  unfold fS_takeFromShelf
  rw [zs_T H, cond_true]
  exact e
theorem zs_join4 {h : zH} {S : Nat → List Nat} (H : zs_S h q L T S K) : ∀ c f i s : Nat, i + c = K → c < f → s + 40 * c ≤ 1000 → fS_canJoin_4 N f q (Int32.ofInt (s : Int)) (Int32.ofInt (i : Int)) h = some (cond (decide (0 < K ∧ s + zs_us S 0 c i ≤ 120)) (Int32.ofInt 1) (Int32.ofInt 0), h) := by
  have hK := H.2.2.2.2.2.1
  intro c
  induction c with
  | zero =>
    intro f i s h1 h2 h3
    obtain ⟨g, rfl⟩ : ∃ g, f = g + 1 := ⟨f - 1, by omega⟩
    rw [fS_canJoin_4, zs_K H, b1_s, zqo_ge _ _ (by omega) (by omega), decide_eq_true (by omega), cond_true, b1_s, zqo_le _ _ (by omega) (by decide), zqo_gt _ _ (by omega) (by decide), zs_us]
    by_cases e1 : K = 0
    · rw [decide_eq_true (by omega), cond_true, decide_eq_false (by omega)]
      rfl
    · rw [decide_eq_false (by omega), cond_false]
      by_cases e2 : s ≤ 120
      · rw [decide_eq_false (by omega), cond_false, decide_eq_true (by omega)]
        rfl
      · rw [decide_eq_true (by omega), cond_true, decide_eq_false (by omega)]
        rfl
  | succ c ih =>
    intro f i s h1 h2 h3
    obtain ⟨g, rfl⟩ : ∃ g, f = g + 1 := ⟨f - 1, by omega⟩
    have Wi := H.2.2.2.2.1 i (by omega)
    have hl := Wi.2.2.2.1
    rw [fS_canJoin_4, zs_K H, b1_s, zqo_ge _ _ (by omega) (by omega), decide_eq_false (by omega), cond_false, zs_at H _ (by omega), b2, if_pos (by omega)]
    show cond (fX h (q + 4 + 2 * i)) (b1 (fI h (q + 4 + 2 * i) 4 1) _) none = _
    rw [zs_X H (by omega), cond_true, zw_z Wi, b1_s]
    unfold fS_canJoin_31
    rw [zw_add, zh_inc, show (s : Int) + ((S i).length : Int) = ((s + (S i).length : Nat) : Int) by omega, ih g (i + 1) (s + (S i).length) (by omega) (by omega) (by omega), zs_us, if_neg (by rw [Nat.zero_testBit]; decide), ← Nat.add_assoc]
theorem zs_canJoin {h : zH} {S : Nat → List Nat} (hN : 1000 ≤ N) (H : zs_S h q L T S K) : fS_canJoin N q h = some (cond (decide (0 < K ∧ zs_us S 0 K 0 ≤ 120)) (Int32.ofInt 1) (Int32.ofInt 0), h) := by
  have hK := H.2.2.2.2.2.1
  have e := zs_join4 (N := N) H K N 0 0 (by omega) (by omega) (by omega)
  unfold fS_canJoin
  rw [zs_T H, cond_true]
  rw [Nat.zero_add] at e
  exact e
theorem zs_great7 {h : zH} {S : Nat → List Nat} (hN : 1000 ≤ N) (H : zs_S h q L T S K) {m : Nat} (hm : m < 256) : ∀ (c f i : Nat) (g : Option Nat), i + c = K → c < f → (∀ j, g = some j → j < i) → fS_greatestOfShelf_7 N f q (Int32.ofInt (m : Int)) (Int32.ofInt (zs_gi g)) (zs_gr q g) (Int32.ofInt (i : Int)) h = some (Int32.ofInt (zs_gi (zs_g S m c i g)), h) := by
  have hK := H.2.2.2.2.2.1
  intro c
  induction c with
  | zero =>
    intro f i g h1 h2 h3
    obtain ⟨y, rfl⟩ : ∃ y, f = y + 1 := ⟨f - 1, by omega⟩
    rw [fS_greatestOfShelf_7, zs_K H, b1_s, zqo_ge _ _ (by omega) (by omega), decide_eq_true (by omega), cond_true]
    rfl
  | succ c ih =>
    intro f i g h1 h2 h3
    obtain ⟨y, rfl⟩ : ∃ y, f = y + 1 := ⟨f - 1, by omega⟩
    have go : ∀ g' : Option Nat, (∀ j, g' = some j → j < i + 1) → fS_greatestOfShelf_72 N (fS_greatestOfShelf_7 N y) q (Int32.ofInt (m : Int)) (Int32.ofInt (zs_gi g')) (zs_gr q g') (Int32.ofInt (i : Int)) h = some (Int32.ofInt (zs_gi (zs_g S m c (i + 1) g')), h) := by
      intro g' hg
      have := ih y (i + 1) g' (by omega) (by omega) hg
      unfold fS_greatestOfShelf_72
      cases g' with
      | none =>
        show fS_greatestOfShelf_7 N y q _ _ none (Int32.ofInt (i : Int) + Int32.ofInt 1) h = _
        rw [zh_inc]
        exact this
      | some x =>
        show fS_greatestOfShelf_7 N y q _ _ (some (q + 4 + 2 * x)) (Int32.ofInt (i : Int) + Int32.ofInt 1) h = _
        rw [zh_inc]
        exact this
    rw [fS_greatestOfShelf_7, zs_K H, b1_s, zqo_ge _ _ (by omega) (by omega), decide_eq_false (by omega), cond_false, zs_bit m i hm (by omega), zs_g]
    cases hb : m.testBit i with
    | true =>
      rw [cond_true, if_pos rfl]
      unfold fS_greatestOfShelf_35
      exact go g (fun j hj => by have := h3 j hj; omega)
    | false =>
      rw [cond_false, if_neg (by decide), zs_at H _ (by omega), b2, if_pos (by omega)]
      show fS_greatestOfShelf_35 N (fS_greatestOfShelf_7 N y) q (Int32.ofInt (m : Int)) (Int32.ofInt (zs_gi g)) (zs_gr q g) (Int32.ofInt (i : Int)) (some (q + 4 + 2 * i)) h = _
      unfold fS_greatestOfShelf_35
      show cond (fX h (q + 4 + 2 * i)) _ none = _
      rw [zs_X H (by omega), cond_true]
      cases g with
      | none =>
        show fS_greatestOfShelf_66 N (fS_greatestOfShelf_7 N y) q (Int32.ofInt (m : Int)) (Int32.ofInt (i : Int)) (some (q + 4 + 2 * i)) h = _
        exact go (some i) (fun j hj => by cases hj; omega)
      | some x =>
        have hx := h3 x rfl
        have Wi := H.2.2.2.2.1 i (by omega)
        have Wx := H.2.2.2.2.1 x (by omega)
        have ho := zw_order (N := N) Wi Wx hN (a := 0) (b := (S i).length) (c := 0) (d := (S x).length) (Nat.le_refl _) (Nat.le_refl _) (Nat.zero_le _) (Nat.zero_le _)
        rw [zw_pall, zw_pall] at ho
        have hb := zw_cmpb (S i) (S x)
        show cond (fX h (q + 4 + 2 * x)) _ none = _
        rw [zs_X H (by omega), cond_true, zw_z Wi, b1_s, zw_z Wx, b1_s, show Int32.ofInt 0 = Int32.ofInt ((0 : Nat) : Int) from rfl, ho, b2, zqo_le _ _ (by omega) (by omega)]
        by_cases e : zw_cmp (S i) (S x) = 1
        · rw [decide_eq_false (by omega), cond_false]
          show fS_greatestOfShelf_66 N (fS_greatestOfShelf_7 N y) q (Int32.ofInt (m : Int)) (Int32.ofInt (i : Int)) (some (q + 4 + 2 * i)) h = some (Int32.ofInt (zs_gi (zs_g S m c (i + 1) (if zw_cmp (S i) (S x) = 1 then some i else some x))), h)
          rw [if_pos e]
          exact go (some i) (fun j hj => by cases hj; omega)
        · rw [decide_eq_true (by omega), cond_true]
          show fS_greatestOfShelf_72 N (fS_greatestOfShelf_7 N y) q (Int32.ofInt (m : Int)) (Int32.ofInt (x : Int)) (some (q + 4 + 2 * x)) (Int32.ofInt (i : Int)) h = some (Int32.ofInt (zs_gi (zs_g S m c (i + 1) (if zw_cmp (S i) (S x) = 1 then some i else some x))), h)
          rw [if_neg e]
          exact go (some x) (fun j hj => by cases hj; omega)
theorem zs_great {h : zH} {S : Nat → List Nat} (hN : 1000 ≤ N) (H : zs_S h q L T S K) {m : Nat} (hm : m < 256) : fS_greatestOfShelf N q (Int32.ofInt (m : Int)) h = some (Int32.ofInt (zs_gi (zs_g S m K 0 none)), h) := by
  have hK := H.2.2.2.2.2.1
  unfold fS_greatestOfShelf
  rw [zs_T H, cond_true]
  exact zs_great7 (N := N) hN H hm K N 0 none (by omega) (by omega) (fun j hj => by cases hj)
theorem zs_join11 {S : Nat → List Nat} (hN : 1000 ≤ N) : ∀ (c f i m : Nat) (h : zH) (t : List Nat), zs_S h q L t S K → i + c = K → c < f → m < 256 → t.length + zs_us S m K 0 ≤ 120 → ∃ h', fS_joinShelf_11 N f q (Int32.ofInt (m : Int)) (Int32.ofInt (i : Int)) h = some ((), h') ∧ zs_S h' q L (zs_jn S K c m t) S K ∧ zs_F h h' q := by
  intro c
  induction c with
  | zero =>
    intro f i m h t H h1 h2 h3 h4
    obtain ⟨y, rfl⟩ : ∃ y, f = y + 1 := ⟨f - 1, by omega⟩
    have hK := H.2.2.2.2.2.1
    refine ⟨h, ?_, H, zs_Fr h q⟩
    rw [fS_joinShelf_11, zs_K H, b1_s, zqo_ge _ _ (by omega) (by omega), decide_eq_true (by omega), cond_true]
  | succ c ih =>
    intro f i m h t H h1 h2 h3 h4
    obtain ⟨y, rfl⟩ : ∃ y, f = y + 1 := ⟨f - 1, by omega⟩
    have hK := H.2.2.2.2.2.1
    rw [fS_joinShelf_11, zs_K H, b1_s, zqo_ge _ _ (by omega) (by omega), decide_eq_false (by omega), cond_false, zs_great hN H h3, b2, zs_jn]
    cases hg : zs_g S m K 0 none with
    | none =>
      obtain ⟨h7, e7, H7, F7⟩ := ih y (i + 1) m h t H (by omega) (by omega) h3 h4
      refine ⟨h7, ?_, H7, F7⟩
      rw [show zs_gi none = -1 from rfl, zs_at H _ (by decide), b2, if_neg (by omega)]
      show fS_joinShelf_58 N (fS_joinShelf_11 N y) q (Int32.ofInt (m : Int)) (Int32.ofInt (i : Int)) h = _
      unfold fS_joinShelf_58
      rw [zh_inc]
      exact e7
    | some j =>
      obtain ⟨j1, j2⟩ := zs_gb S m K 0 none (fun k hk => by cases hk) j hg
      rw [Nat.zero_add] at j1
      have Wj := H.2.2.2.2.1 j (by omega)
      have us := zs_us1 S m j h3 j2 K 0 (by omega) (Nat.zero_le j) (by omega)
      obtain ⟨h5, e5, W5, F5⟩ := zw_addPart (N := N) (show zw_d (q + 4 + 2 * j) (q + 1) by unfold zw_d; omega) H.2.2.2.1 Wj 0 (S j).length (by omega) (by omega) (by have := Wj.2.2.2.1; omega)
      rw [List.drop_zero, List.take_of_length_le (Nat.le_refl _)] at W5
      rw [Nat.zero_add] at e5
      obtain ⟨H6, F6⟩ := zs_text H W5 F5
      obtain ⟨h7, e7, H7, F7⟩ := ih y (i + 1) (m ||| (1 <<< j)) h5 _ H6 (by omega) (by omega) (zs_orb m j 0 h3 (by omega) (by omega)).1 (by rw [List.length_append]; omega)
      refine ⟨h7, ?_, H7, zs_Ft F6 F7⟩
      rw [show zs_gi (some j) = (j : Int) from rfl, zs_at H _ (by omega), b2, if_pos (by omega), show ((j : Nat) : Int).toNat = j by omega]
      show cond (fX h (q + 4 + 2 * j)) _ none = _
      rw [zs_X H (by omega), cond_true, zs_t H, b1_s, zw_z Wj, b1_s, show Int32.ofInt 0 = Int32.ofInt ((0 : Nat) : Int) from rfl, e5, b2]
      unfold fS_joinShelf_58
      rw [zs_or m j h3 (by omega), zh_inc]
      exact e7
theorem zs_join {h : zH} {S : Nat → List Nat} (hN : 1000 ≤ N) (H : zs_S h q L T S K) (hs : zs_us S 0 K 0 ≤ 120) : ∃ h', fS_joinShelf N q h = some ((), h') ∧ zs_S h' q L (zs_jn S K K 0 []) S K ∧ zs_F h h' q := by
  have hK := H.2.2.2.2.2.1
  obtain ⟨h1, e1, W1, F1⟩ := zw_clear (N := N) H.2.2.2.1
  obtain ⟨H2, F2⟩ := zs_text H W1 F1
  obtain ⟨h3, e3, H3, F3⟩ := zs_join11 (N := N) hN K N 0 0 h1 [] H2 (by omega) (by omega) (by decide) (by rw [List.length_nil]; omega)
  refine ⟨h3, ?_, H3, zs_Ft F2 F3⟩
  unfold fS_joinShelf
  rw [zs_T H, cond_true, zs_t H, b1_s, e1, b2]
  exact e3
end ZSH
