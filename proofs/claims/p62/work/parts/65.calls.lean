/-! THE CLASS'S CHANGES of the letters, of the shelf; undo; the snapshot. -/
theorem zm_sp {l : List Nat} {g : Nat} : ∀ c k, k ≤ c → zw_sp l g c k ≤ k ∧ (zw_sp l g c k = 0 ∨ l.getD (zw_sp l g c k - 1) 0 ≠ g) := by
  intro c
  induction c with
  | zero =>
    intro k h
    rw [zw_sp]
    exact ⟨Nat.le_refl k, Or.inl (by omega)⟩
  | succ c ih =>
    intro k h
    rw [zw_sp]
    by_cases e : k = 0
    · rw [if_pos e]
      exact ⟨Nat.zero_le k, Or.inl rfl⟩
    · rw [if_neg e]
      by_cases e2 : l.getD (k - 1) 0 = g
      · rw [if_pos e2]
        have := ih (k - 1) (by omega)
        exact ⟨by omega, this.2⟩
      · rw [if_neg e2]
        exact ⟨Nat.le_refl k, Or.inr e2⟩
/-- the letters before the last ones that are the greatest, m in all -/
def zm_nr (T : List Nat) (m g : Nat) : Nat := zw_sp (zw_xt T.length (m - T.length) T) g m (zw_xt T.length (m - T.length) T).length
theorem zm_X {T : List Nat} {m : Nat} (h0 : 0 < T.length) (hm : T.length ≤ m) : (zw_xt T.length (m - T.length) T).length = m ∧ ∀ j, j < m → (zw_xt T.length (m - T.length) T).getD j 0 = zm_c T j := by
  have hl := zw_xtl T.length (m - T.length) T
  refine ⟨by omega, fun j hj => zm_xt h0 _ T (Nat.le_refl _) (fun x hx => ?_) j (by omega)⟩
  unfold zm_c
  rw [Nat.mod_eq_of_lt hx]
/-- the next word's letters -/
theorem zm_nx {T : List Nat} {m g : Nat} (h0 : 0 < T.length) (hm : T.length ≤ m) : zm_nr T m g ≤ m ∧ (zw_nx T m g).length = zm_nr T m g ∧ (∀ j, j < zm_nr T m g → (zw_nx T m g).getD j 0 = if j = zm_nr T m g - 1 then zm_c T j + 1 else zm_c T j) ∧ (zm_nr T m g = 0 ∨ zm_c T (zm_nr T m g - 1) ≠ g) := by
  obtain ⟨x1, x2⟩ := zm_X h0 hm
  have s := zm_sp (l := zw_xt T.length (m - T.length) T) (g := g) m (zw_xt T.length (m - T.length) T).length (by omega)
  unfold zw_nx zw_up
  rw [if_neg (by omega)]
  change zm_nr T m g ≤ _ ∧ (zm_nr T m g = 0 ∨ (zw_xt T.length (m - T.length) T).getD (zm_nr T m g - 1) 0 ≠ g) at s
  change zm_nr T m g ≤ m ∧ (((zw_xt T.length (m - T.length) T).take (zm_nr T m g)).set (zm_nr T m g - 1) ((zw_xt T.length (m - T.length) T).getD (zm_nr T m g - 1) 0 + 1)).length = zm_nr T m g ∧ (∀ j, j < zm_nr T m g → (((zw_xt T.length (m - T.length) T).take (zm_nr T m g)).set (zm_nr T m g - 1) ((zw_xt T.length (m - T.length) T).getD (zm_nr T m g - 1) 0 + 1)).getD j 0 = if j = zm_nr T m g - 1 then zm_c T j + 1 else zm_c T j) ∧ (zm_nr T m g = 0 ∨ zm_c T (zm_nr T m g - 1) ≠ g)
  generalize zm_nr T m g = r at s ⊢
  have hl : ((zw_xt T.length (m - T.length) T).take r).length = r := by rw [List.length_take]; omega
  refine ⟨by omega, by rw [List.length_set, hl], ?_, ?_⟩
  · intro j hj
    rw [zm_gs _ _ _ _ (by omega)]
    by_cases e : j = r - 1
    · rw [if_pos e, if_pos e, ← e, x2 j (by omega)]
    · rw [if_neg e, if_neg e, List.getD_eq_getElem?_getD, List.getElem?_take_of_lt hj, ← List.getD_eq_getElem?_getD, x2 j (by omega)]
  · rcases s.2 with s | s
    · exact Or.inl s
    · by_cases e : r = 0
      · exact Or.inl e
      · rw [x2 _ (by omega)] at s
        exact Or.inr s
theorem zs_gC {S S' : Nat → List Nat} {K : Nat} (hS : ∀ j, j < K → S j = S' j) (m : Nat) : ∀ c i g, i + c ≤ K → (∀ j, g = some j → j < K) → zs_g S m c i g = zs_g S' m c i g := by
  intro c
  induction c with
  | zero => intro i g h1 h2; rfl
  | succ c ih =>
    intro i g h1 h2
    rw [zs_g, zs_g]
    have e : zs_st S i g = zs_st S' i g := by
      cases g with
      | none => rfl
      | some j => rw [zs_st, zs_st, hS i (by omega), hS j (h2 j rfl)]
    rw [e]
    refine ih (i + 1) _ (by omega) (fun j hj => ?_)
    split at hj
    · exact h2 j hj
    · cases g with
      | none =>
        cases hj
        omega
      | some x =>
        rw [zs_st] at hj
        have := h2 x rfl
        split at hj
        · cases hj
          omega
        · cases hj
          exact this
theorem zs_jnC {S S' : Nat → List Nat} {K : Nat} (hK : K ≤ 8) (hS : ∀ j, j < K → S j = S' j) : ∀ c m t, zs_jn S K c m t = zs_jn S' K c m t := by
  intro c
  induction c with
  | zero => intro m t; rfl
  | succ c ih =>
    intro m t
    rw [zs_jn, zs_jn, zs_gC hS m K 0 none (by omega) (fun j hj => by cases hj)]
    cases h : zs_g S' m K 0 none with
    | none => exact ih m t
    | some j =>
      have := (zs_gb S' m K 0 none (fun k hk => by cases hk) j h).1
      simp only
      rw [hS j (by omega)]
      exact ih _ _
theorem zs_jnL {S : Nat → List Nat} {K : Nat} {P : Nat → Prop} (hS : ∀ j, j < K → ∀ v ∈ S j, P v) : ∀ c m t, (∀ v ∈ t, P v) → ∀ v ∈ zs_jn S K c m t, P v := by
  intro c
  induction c with
  | zero => intro m t h; exact h
  | succ c ih =>
    intro m t h
    rw [zs_jn]
    cases e : zs_g S m K 0 none with
    | none => exact ih m t h
    | some j =>
      have := (zs_gb S m K 0 none (fun k hk => by cases hk) j e).1
      refine ih _ _ (fun v hv => ?_)
      rw [List.mem_append] at hv
      rcases hv with hv | hv
      · exact h v hv
      · exact hS j (by omega) v hv
/-- the kept words joined, from the greatest on -/
def zv_jn (Ks : List (List Nat)) : List Nat := zs_jn (fun i => Ks.getD i []) Ks.length Ks.length 0 []
/-- all letters are among the first M -/
def zv_fit (A : zA) (M : Nat) : Bool := (A.2.2.all fun w => w.all fun v => decide (v < 97 + M)) && A.2.1.all fun v => decide (v < 97 + M)
theorem zv_mget {S : Nat → List Nat} {Ks : List (List Nat)} (h : (List.range Ks.length).map S = Ks) {i : Nat} (hi : i < Ks.length) : S i = Ks.getD i [] := by
  have : Ks[i]? = some (S i) := by
    rw [← h, List.getElem?_map, List.getElem?_range hi]
    rfl
  rw [List.getD_eq_getElem?_getD, this]
  rfl
section ZVD
variable {N : Nat} {h : zH} {now snap : zA} {hist : List zA} {sv : Int} {inp : List Nat} {rep : zvP}
theorem zk_setLetters (V : zv h now hist snap sv inp rep) (hN : 3000 ≤ N) (x : Int) (hx : -2147483648 ≤ x ∧ x < 2147483648) : (¬ (2 ≤ x ∧ x ≤ 9) ∧ fB_setLetters N 0 (Int32.ofInt x) h = some (.inr 0, h)) ∨ ((2 ≤ x ∧ x ≤ 9) ∧ zv_fit now x.toNat = false ∧ fB_setLetters N 0 (Int32.ofInt x) h = some (.inr 1, h)) ∨ ((2 ≤ x ∧ x ≤ 9) ∧ zv_fit now x.toNat = true ∧ ∃ h', fB_setLetters N 0 (Int32.ofInt x) h = some (.inl (Int32.ofInt (now.1 : Int)), h') ∧ zv h' (x.toNat, now.2.1, now.2.2) (zv_push hist now) snap sv inp rep ∧ zc_F h h') := by
  obtain ⟨ok, S, H, hS, _⟩ := zv_open V
  unfold fB_setLetters
  rw [zv_T0 V, cond_true, zqo_lt _ _ hx (by decide), zqo_le _ _ hx (by decide)]
  by_cases e1 : x < 2
  · refine Or.inl ⟨by omega, ?_⟩
    rw [decide_eq_true e1, cond_true]
    rfl
  · rw [decide_eq_false e1, cond_false]
    by_cases e2 : x ≤ 9
    · refine Or.inr ?_
      obtain ⟨v, rfl⟩ : ∃ v : Nat, x = (v : Int) := ⟨x.toNat, by omega⟩
      have hf := zs_fits (N := N) H (by omega) (M := v) (by omega)
      have hfit : (((List.range now.2.2.length).all fun i => (S i).all fun u => decide (u < 97 + v)) && now.2.1.all fun u => decide (u < 97 + v)) = zv_fit now v := by
        unfold zv_fit
        rw [← hS, List.all_map, List.length_map, List.length_range]
        rfl
      rw [hfit] at hf
      rw [decide_eq_true e2, cond_true, zv_r00 V, b1_s, hf, b2]
      cases e3 : zv_fit now v with
      | false =>
        refine Or.inl ⟨by omega, e3, ?_⟩
        rw [cond_false, show z_cmp .ne (Int32.ofInt 0) (Int32.ofInt 0) = false from rfl, cond_false]
      | true =>
        refine Or.inr ⟨by omega, e3, ?_⟩
        obtain ⟨h1, e4, V1, F1⟩ := zv_remember (N := N) V (by omega)
        obtain ⟨ok1, S1, H1, hS1, cl⟩ := zv_open V1
        obtain ⟨h2, e5, H2, F2⟩ := zs_setL H1 (L' := v) (by omega)
        have e3' := e3
        unfold zv_fit at e3'
        rw [Bool.and_eq_true, List.all_eq_true, List.all_eq_true] at e3'
        obtain ⟨V2, G2⟩ := cl h2 _ _ _ _ H2 F2 ⟨by omega, ok.2.1, fun u hu => ⟨(ok.2.2.1 u hu).1, of_decide_eq_true (e3'.2 u hu)⟩, by rw [hS1]; exact ok.2.2.2.1, fun w hw => by
          rw [hS1] at hw
          have := ok.2.2.2.2 w hw
          exact ⟨this.1, this.2.1, fun u hu => ⟨(this.2.2 u hu).1, of_decide_eq_true (List.all_eq_true.mp (e3'.1 w hw) u hu)⟩⟩⟩
        rw [hS1] at V2
        refine ⟨h2, ?_, V2, zc_Ft F1 G2⟩
        rw [cond_true, show z_cmp .ne (Int32.ofInt 1) (Int32.ofInt 0) = true from rfl, cond_true, zv_r01 V, b1_s, zv_r00 V, b1_s, e4, b2, zv_r00 V1, b1_s, zs_L H1, b1_s, b1_s, e5, b1_s]
    · refine Or.inl ⟨by omega, ?_⟩
      rw [decide_eq_false e2, cond_false]
      rfl
theorem zk_nextLyndon (V : zv h now hist snap sv inp rep) (hN : 3000 ≤ N) (x : Int) (hx : -2147483648 ≤ x ∧ x < 2147483648) : (¬ (1 ≤ x ∧ x ≤ 120) ∧ fB_nextLyndon N 0 (Int32.ofInt x) h = some (.inr 0, h)) ∨ ((1 ≤ x ∧ x ≤ 120) ∧ zs_hn now.1 now.2.1 x = false ∧ fB_nextLyndon N 0 (Int32.ofInt x) h = some (.inr 1, h)) ∨ ((1 ≤ x ∧ x ≤ 120) ∧ zs_hn now.1 now.2.1 x = true ∧ ∃ h', fB_nextLyndon N 0 (Int32.ofInt x) h = some (.inl (Int32.ofInt ((zw_nx now.2.1 x.toNat (97 + now.1 - 1)).length : Int)), h') ∧ zv h' (now.1, zw_nx now.2.1 x.toNat (97 + now.1 - 1), now.2.2) (zv_push hist now) snap sv inp rep ∧ zc_F h h') := by
  obtain ⟨ok, S, H, hS, _⟩ := zv_open V
  have o1 := ok.1
  unfold fB_nextLyndon
  rw [zv_T0 V, cond_true, zqo_lt _ _ hx (by decide), zqo_le _ _ hx (by decide)]
  by_cases e1 : x < 1
  · refine Or.inl ⟨by omega, ?_⟩
    rw [decide_eq_true e1, cond_true]
    rfl
  · rw [decide_eq_false e1, cond_false]
    by_cases e2 : x ≤ 120
    · refine Or.inr ?_
      rw [decide_eq_true e2, cond_true, zv_r00 V, b1_s, zs_hasNext H (by omega) (by omega) x hx, b2]
      cases e3 : zs_hn now.1 now.2.1 x with
      | false =>
        refine Or.inl ⟨by omega, rfl, ?_⟩
        rw [cond_false, show z_cmp .ne (Int32.ofInt 0) (Int32.ofInt 0) = false from rfl, cond_false]
      | true =>
        refine Or.inr ⟨by omega, rfl, ?_⟩
        obtain ⟨v, rfl⟩ : ∃ v : Nat, x = (v : Int) := ⟨x.toNat, by omega⟩
        unfold zs_hn at e3
        rw [Bool.and_eq_true, Bool.and_eq_true] at e3
        have l1 := of_decide_eq_true e3.1
        have l2 := of_decide_eq_true e3.2.1
        have x1 := zm_nx (T := now.2.1) (m := v) (g := 97 + now.1 - 1) l2.1 (by omega)
        obtain ⟨h1, e4, V1, F1⟩ := zv_remember (N := N) V (by omega)
        obtain ⟨ok1, S1, H1, hS1, cl⟩ := zv_open V1
        have W1 := zv_txt V1
        obtain ⟨h2, e5, W2, F2⟩ := zw_step (N := N) W1 (by omega) (m := v) (g := 97 + now.1 - 1) (by omega) (by omega) (by omega) (fun u hu => by
          have := ok.2.2.1 u hu
          omega)
        obtain ⟨V2, G2⟩ := zv_text V1 W2 F2 (zm_mem (P := fun u => 97 ≤ u ∧ u < 97 + now.1) (fun j hj => by
          rw [x1.2.1] at hj
          rw [x1.2.2.1 j hj]
          have a1 := zm_cget (P := fun u => 97 ≤ u ∧ u < 97 + now.1) ok.2.2.1 l2.1 j
          by_cases e6 : j = zm_nr now.2.1 v (97 + now.1 - 1) - 1
          · rw [if_pos e6]
            rcases x1.2.2.2 with x2 | x2
            · omega
            · rw [← e6] at x2
              omega
          · rw [if_neg e6]
            exact a1))
        refine ⟨h2, ?_, V2, zc_Ft F1 G2⟩
        rw [cond_true, show z_cmp .ne (Int32.ofInt 1) (Int32.ofInt 0) = true from rfl, cond_true, zv_r01 V, b1_s, zv_r00 V, b1_s, e4, b2, zv_r00 V1, b1_s, zv_t V1, b1_s, b1_s, zs_greatest H1, b2, zw_sub, show ((97 + now.1 : Nat) : Int) - 1 = ((97 + now.1 - 1 : Nat) : Int) by omega, e5, b2, zv_r00 V2, b1_s, zv_t V2, b1_s, zw_z W2, b1_s]
        rfl
    · refine Or.inl ⟨by omega, ?_⟩
      rw [decide_eq_false e2, cond_false]
      rfl
end ZVD
