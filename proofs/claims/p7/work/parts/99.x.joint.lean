/-! CLASS AND REFERENCE SIDE BY SIDE: each call on both keeps what they have in common. -/
/-- side by side; c is what the reference threw last -/
def yA (h : zH) (c : Int) : Prop := ∃ now hist snap sv inp rep rep', zv h now hist snap sv inp rep ∧ zy h now hist snap sv inp rep' c ∧ (sv = 0 ∨ sv = 1) ∧ rep'.1 = rep.1 ∧ rep.1.length ≤ 240 ∧ ∃ o, h[243]? = some (103, [o])
/-- a call on both sides that throws nothing: the same answer -/
def yA_D {α : Type} (X : Option (α × zH)) (Q : zH → Option (α × zH)) : Prop := ∃ y h1 h2, X = some (y, h1) ∧ Q h1 = some (y, h2) ∧ yA h2 0
/-- the same, answers aside -/
def yA_E {α β : Type} (X : Option (α × zH)) (Q : zH → Option (β × zH)) : Prop := ∃ y z h1 h2, X = some (y, h1) ∧ Q h1 = some (z, h2) ∧ yA h2 0
/-- a call that may throw: the same is thrown, or the same answered -/
def yA_T (X : Option (Int32 × zH)) (Q : zH → Option (Int32 × zH)) : Prop := ∃ c y h1 h2, X = some (Int32.ofInt c, h1) ∧ Q h1 = some (y, h2) ∧ yA h2 c ∧ (c = 0 → h2[243]? = some (103, [.long y.toInt64])) ∧ (c ≠ 0 → y = Int32.ofInt 0) ∧ 0 ≤ c ∧ c ≤ 2
/-- the same for long answers -/
def yA_L (X : Option (Int32 × zH)) (Q : zH → Option (Int64 × zH)) : Prop := ∃ c y h1 h2, X = some (Int32.ofInt c, h1) ∧ Q h1 = some (y, h2) ∧ yA h2 c ∧ (c = 0 → h2[243]? = some (103, [.long y])) ∧ (c ≠ 0 → y = Int64.ofNat 0) ∧ 0 ≤ c ∧ c ≤ 2
/-- the same, answers aside -/
def yA_U (X : Option (Int32 × zH)) (Q : zH → Option (Int32 × zH)) : Prop := ∃ x y c h1 h2, X = some (x, h1) ∧ Q h1 = some (y, h2) ∧ yA h2 c
theorem yA_zy {h h' : zH} {now snap : zA} {hist : List zA} {sv t : Int} {inp : List Nat} {rep : zvP} (Y : zy h now hist snap sv inp rep t) (f : ∀ p, 232 ≤ p → p ≠ 243 → h'[p]? = h[p]?) : zy h' now hist snap sv inp rep t := by
  obtain ⟨fl, a, H, r⟩ := Y
  exact ⟨fl, a, zr_frame H (fun p h1 h2 => f p h1 (by omega)), r⟩
section YAA
variable {N : Nat} {h h1 h2 : zH} {now snap now1 snap1 : zA} {hist hist1 : List zA} {sv sv1 t c : Int} {inp inp1 : List Nat} {rep rep' rep1 rep2 : zvP}
/-- what the class's questions read -/
theorem yA_q (V : zv h now hist snap sv inp rep) : ∃ sL sT sS sK wd nu hs, zc h sL sT sS sK wd nu hs ∧ sL 1 = now.1 ∧ sT 1 = now.2.1 ∧ sK 1 = now.2.2.length ∧ (∀ k, k < now.2.2.length → sS 1 k = now.2.2.getD k []) ∧ nu 1 = (hist.length : Int) ∧ nu 2 = rep.2.1 ∧ nu 3 = rep.2.2 ∧ wd 228 = rep.1 ∧ ∀ h' w, zc h' sL sT sS sK (zc_u wd 230 w) nu hs → zv h' now hist snap sv inp rep := by
  obtain ⟨sL, sT, sS, sK, wd, nu, hs, C, v1, v2, v3, v4, v5, v6, v7, v8, v9⟩ := V
  have l3 : now.2.2 = (List.range (sK 1)).map (sS 1) := by rw [← v1]; rfl
  refine ⟨sL, sT, sS, sK, wd, nu, hs, C, by rw [← v1]; rfl, by rw [← v1]; rfl, ?_, ?_, v2, v8.2.1, v8.2.2, v8.1, fun h' w C' => ⟨_, _, _, _, _, _, _, C', v1, v2, v3, v4, v5, v6, by rw [zc_un _ _ (show (204 : Nat) ≠ 230 by decide)]; exact v7, ⟨by rw [zc_un _ _ (show (228 : Nat) ≠ 230 by decide)]; exact v8.1, v8.2⟩, v9⟩⟩
  · rw [l3, List.length_map, List.length_range]
  · intro k hk
    rw [l3] at hk ⊢
    rw [List.length_map, List.length_range] at hk
    rw [List.getD_eq_getElem?_getD, List.getElem?_map, List.getElem?_range hk]
    rfl
theorem yA_of (V1 : zv h1 now hist snap sv inp rep) (F : zr_F h1 h2) (Y2 : zy h2 now hist snap sv inp rep' c) (hsv : sv = 0 ∨ sv = 1) (hr : rep'.1 = rep.1) (hl : rep.1.length ≤ 240) (o : ∃ o, h1[243]? = some (103, [o])) : yA h2 c := ⟨_, _, _, _, _, _, _, zv_frame V1 (fun p hp => F.2 p (Or.inl hp)), Y2, hsv, hr, hl, by rw [F.2 243 (Or.inr (by decide))]; exact o⟩
theorem yA_dir {α : Type} {X : Option (α × zH)} {Q : zH → Option (α × zH)} {y : α} (Y : zy h now hist snap sv inp rep' t) (o : ∃ o, h[243]? = some (103, [o])) (V1 : zv h1 now1 hist1 snap1 sv1 inp1 rep1) (F1 : zc_F h h1) (e : X = some (y, h1)) (r : ∀ g, zy g now hist snap sv inp rep' t → ∃ g', Q g = some (y, g') ∧ zy g' now1 hist1 snap1 sv1 inp1 rep2 0 ∧ zr_F g g') (hsv : sv1 = 0 ∨ sv1 = 1) (hr : rep2.1 = rep1.1) (hl : rep1.1.length ≤ 240) : yA_D X Q := by
  obtain ⟨g', e2, Y2, F2⟩ := r h1 (zy_frame Y F1)
  exact ⟨y, h1, g', e, e2, yA_of V1 F2 Y2 hsv hr hl (by rw [F1.2 243 (by decide)]; exact o)⟩
theorem yA_dirE {α β : Type} {X : Option (α × zH)} {Q : zH → Option (β × zH)} {y : α} (Y : zy h now hist snap sv inp rep' t) (o : ∃ o, h[243]? = some (103, [o])) (V1 : zv h1 now1 hist1 snap1 sv1 inp1 rep1) (F1 : zc_F h h1) (e : X = some (y, h1)) (r : ∀ g, zy g now hist snap sv inp rep' t → ∃ z g', Q g = some (z, g') ∧ zy g' now1 hist1 snap1 sv1 inp1 rep2 0 ∧ zr_F g g') (hsv : sv1 = 0 ∨ sv1 = 1) (hr : rep2.1 = rep1.1) (hl : rep1.1.length ≤ 240) : yA_E X Q := by
  obtain ⟨z, g', e2, Y2, F2⟩ := r h1 (zy_frame Y F1)
  exact ⟨y, z, h1, g', e, e2, yA_of V1 F2 Y2 hsv hr hl (by rw [F1.2 243 (by decide)]; exact o)⟩
theorem yA_set {v : Value} (o : ∃ o, h1[243]? = some (103, [o])) : ∃ g, fAS h1 243 103 (Int32.ofInt 0) v = some g ∧ g[243]? = some (103, [v]) ∧ ∀ p, p ≠ 243 → g[p]? = h1[p]? := by
  obtain ⟨w, o⟩ := o
  have e : fAS h1 243 103 (Int32.ofInt ((0 : Nat) : Int)) v = _ := zh_AS (i := 0) (v := v) o (Nat.zero_lt_succ _) (by decide)
  exact ⟨_, e, List.getElem?_set_self (List.getElem?_eq_some_iff.mp o).1, fun p hp => zh_set (Ne.symm hp)⟩
theorem yA_ret {hs : List zX} {pc : Nat} {X : Option ((Int32 ⊕ Nat) × zH)} {Q : zH → Option (Int32 × zH)} {y : Int32} (Y : zy h now hist snap sv inp rep' t) (o : ∃ o, h[243]? = some (103, [o])) (V1 : zv h1 now1 hist1 snap1 sv1 inp1 rep1) (F1 : zc_F h h1) (e : X = some (.inl y, h1)) (r : ∀ g, zy g now hist snap sv inp rep' t → ∃ g', Q g = some (y, g') ∧ zy g' now1 hist1 snap1 sv1 inp1 rep2 0 ∧ zr_F g g') (hsv : sv1 = 0 ∨ sv1 = 1) (hr : rep2.1 = rep1.1) (hl : rep1.1.length ≤ 240) : yA_T (bH hs pc X fun x1 h2 => b1 (fAS h2 243 103 (Int32.ofInt 0) (.long (x1).toInt64)) fun h3 => some ((Int32.ofInt 0), h3)) Q := by
  obtain ⟨g, e1, o1, f1⟩ := yA_set (v := .long y.toInt64) (h1 := h1) (by rw [F1.2 243 (by decide)]; exact o)
  obtain ⟨g', e2, Y2, F2⟩ := r g (yA_zy Y (fun p hp hq => (f1 p hq).trans (F1.2 p hp)))
  refine ⟨0, y, g, g', ?_, e2, yA_of (zv_frame V1 (fun p hp => f1 p (by omega))) F2 Y2 hsv hr hl ⟨_, o1⟩, fun _ => (F2.2 243 (Or.inr (by decide))).trans o1, fun x => absurd rfl x, by decide, by decide⟩
  rw [e]
  show b1 (fAS h1 243 103 (Int32.ofInt 0) (.long y.toInt64)) _ = _
  rw [e1, b1_s]
theorem yA_retL {hs : List zX} {pc : Nat} {X : Option ((Int64 ⊕ Nat) × zH)} {Q : zH → Option (Int64 × zH)} {y : Int64} (Y : zy h now hist snap sv inp rep' t) (o : ∃ o, h[243]? = some (103, [o])) (V1 : zv h1 now1 hist1 snap1 sv1 inp1 rep1) (F1 : zc_F h h1) (e : X = some (.inl y, h1)) (r : ∀ g, zy g now hist snap sv inp rep' t → ∃ g', Q g = some (y, g') ∧ zy g' now1 hist1 snap1 sv1 inp1 rep2 0 ∧ zr_F g g') (hsv : sv1 = 0 ∨ sv1 = 1) (hr : rep2.1 = rep1.1) (hl : rep1.1.length ≤ 240) : yA_L (bH hs pc X fun x1 h2 => b1 (fAS h2 243 103 (Int32.ofInt 0) (.long x1)) fun h3 => some ((Int32.ofInt 0), h3)) Q := by
  obtain ⟨g, e1, o1, f1⟩ := yA_set (v := .long y) (h1 := h1) (by rw [F1.2 243 (by decide)]; exact o)
  obtain ⟨g', e2, Y2, F2⟩ := r g (yA_zy Y (fun p hp hq => (f1 p hq).trans (F1.2 p hp)))
  refine ⟨0, y, g, g', ?_, e2, yA_of (zv_frame V1 (fun p hp => f1 p (by omega))) F2 Y2 hsv hr hl ⟨_, o1⟩, fun _ => (F2.2 243 (Or.inr (by decide))).trans o1, fun x => absurd rfl x, by decide, by decide⟩
  rw [e]
  show b1 (fAS h1 243 103 (Int32.ofInt 0) (.long y)) _ = _
  rw [e1, b1_s]
theorem yA_thr {hs : List zX} {pc : Nat} {X : Option ((Int32 ⊕ Nat) × zH)} {G : Int32 → zH → Option (Int32 × zH)} {Q : zH → Option (Int32 × zH)} {k : Nat} (Y : zy h now hist snap sv inp rep' t) (o : ∃ o, h[243]? = some (103, [o])) (V : zv h now hist snap sv inp rep) (e : X = some (.inr k, h)) (c : Int) (hc : (z_catch za_nc hs pc k).map (fun w => w.2.2) = some (Int32.ofInt c)) (c1 : 1 ≤ c ∧ c ≤ 2) (r : ∀ g, zy g now hist snap sv inp rep' t → ∃ g', Q g = some (Int32.ofInt 0, g') ∧ zy g' now hist snap sv inp rep' c ∧ zr_F g g') (hsv : sv = 0 ∨ sv = 1) (hr : rep'.1 = rep.1) (hl : rep.1.length ≤ 240) : yA_T (bH hs pc X G) Q := by
  obtain ⟨g', e2, Y2, F2⟩ := r h Y
  refine ⟨c, Int32.ofInt 0, h, g', ?_, e2, yA_of V F2 Y2 hsv hr hl o, fun x => absurd x (by omega), fun _ => rfl, by omega, by omega⟩
  rw [e]
  show (match z_catch za_nc hs pc k with | some w => some (w.2.2, h) | none => none) = _
  cases hz : z_catch za_nc hs pc k with
  | none =>
    rw [hz] at hc
    cases hc
  | some w =>
    rw [hz] at hc
    have hc : some w.2.2 = some (Int32.ofInt c) := hc
    show some (w.2.2, h) = _
    rw [Option.some.inj hc]
theorem yA_thrL {hs : List zX} {pc : Nat} {X : Option ((Int64 ⊕ Nat) × zH)} {G : Int64 → zH → Option (Int32 × zH)} {Q : zH → Option (Int64 × zH)} {k : Nat} (Y : zy h now hist snap sv inp rep' t) (o : ∃ o, h[243]? = some (103, [o])) (V : zv h now hist snap sv inp rep) (e : X = some (.inr k, h)) (c : Int) (hc : (z_catch za_nc hs pc k).map (fun w => w.2.2) = some (Int32.ofInt c)) (c1 : 1 ≤ c ∧ c ≤ 2) (r : ∀ g, zy g now hist snap sv inp rep' t → ∃ g', Q g = some (Int64.ofNat 0, g') ∧ zy g' now hist snap sv inp rep' c ∧ zr_F g g') (hsv : sv = 0 ∨ sv = 1) (hr : rep'.1 = rep.1) (hl : rep.1.length ≤ 240) : yA_L (bH hs pc X G) Q := by
  obtain ⟨g', e2, Y2, F2⟩ := r h Y
  refine ⟨c, Int64.ofNat 0, h, g', ?_, e2, yA_of V F2 Y2 hsv hr hl o, fun x => absurd x (by omega), fun _ => rfl, by omega, by omega⟩
  rw [e]
  show (match z_catch za_nc hs pc k with | some w => some (w.2.2, h) | none => none) = _
  cases hz : z_catch za_nc hs pc k with
  | none =>
    rw [hz] at hc
    cases hc
  | some w =>
    rw [hz] at hc
    have hc : some w.2.2 = some (Int32.ofInt c) := hc
    show some (w.2.2, h) = _
    rw [Option.some.inj hc]
end YAA
theorem zs_gc {S S' : Nat → List Nat} {m K : Nat} (e : ∀ j, j < K → S j = S' j) : ∀ c i g, i + c ≤ K → (∀ j, g = some j → j < i) → zs_g S m c i g = zs_g S' m c i g := by
  intro c
  induction c with
  | zero => intro i g h1 h2; rfl
  | succ c ih =>
    intro i g h1 h2
    have es : zs_st S i g = zs_st S' i g := by
      cases g with
      | none => rfl
      | some j =>
        rw [zs_st, zs_st, e i (by omega), e j (by have := h2 j rfl; omega)]
    rw [zs_g, zs_g, es]
    refine ih (i + 1) _ (by omega) (fun j hj => ?_)
    split at hj
    · have := h2 j hj
      omega
    · cases g with
      | none =>
        cases hj
        omega
      | some y =>
        rw [zs_st] at hj
        have := h2 y rfl
        split at hj <;> (cases hj; omega)
theorem zc_fallc {S S' : Nat → List Nat} {K : Nat} (e : ∀ j, j < K → S j = S' j) : ∀ c, c + 1 ≤ K ∨ c = 0 → zc_fall S K c = zc_fall S' K c := by
  intro c
  induction c with
  | zero => intro _; rfl
  | succ c ih =>
    intro h
    rw [zc_fall, zc_fall, e (K - (c + 1)) (by omega), e (K - (c + 1) - 1) (by omega), ih (Or.inl (by omega))]
section YAB
variable {N : Nat} {h : zH} {c : Int}
theorem yA_letters (J : yA h c) (hN : 1000001 ≤ N) : yA_D (fB_letters N 0 h) (fM_letters N 232) := by
  obtain ⟨now, hist, snap, sv, inp, rep, rep', V, Y, hsv, hr, hl, o⟩ := J
  have ok := (zv_open V).1
  have zo' := zv_o V
  obtain ⟨sL, sT, sS, sK, wd, nu, hs, C, l1, l2, l3, l4, n1, n2, n3, l5, l6⟩ := yA_q V
  have e := zq_letters (N := N) C
  rw [l1] at e
  exact yA_dir Y o V (zc_Fr h) e (fun g Yg => zn_letters (N := N) Yg) hsv hr hl
theorem yA_length (J : yA h c) (hN : 1000001 ≤ N) : yA_D (fB_length N 0 h) (fM_length N 232) := by
  obtain ⟨now, hist, snap, sv, inp, rep, rep', V, Y, hsv, hr, hl, o⟩ := J
  have ok := (zv_open V).1
  have zo' := zv_o V
  obtain ⟨sL, sT, sS, sK, wd, nu, hs, C, l1, l2, l3, l4, n1, n2, n3, l5, l6⟩ := yA_q V
  have e := zq_length (N := N) C
  rw [l2] at e
  exact yA_dir Y o V (zc_Fr h) e (fun g Yg => zn_length (N := N) Yg) hsv hr hl
theorem yA_keptCount (J : yA h c) (hN : 1000001 ≤ N) : yA_D (fB_keptCount N 0 h) (fM_keptCount N 232) := by
  obtain ⟨now, hist, snap, sv, inp, rep, rep', V, Y, hsv, hr, hl, o⟩ := J
  have ok := (zv_open V).1
  have zo' := zv_o V
  obtain ⟨sL, sT, sS, sK, wd, nu, hs, C, l1, l2, l3, l4, n1, n2, n3, l5, l6⟩ := yA_q V
  have e := zq_keptCount (N := N) C
  rw [l3] at e
  exact yA_dir Y o V (zc_Fr h) e (fun g Yg => zn_keptCount (N := N) Yg) hsv hr hl
theorem yA_letterAt (J : yA h c) (hN : 1000001 ≤ N) (x : Int) (hx : -2147483648 ≤ x ∧ x < 2147483648) : yA_D (fB_letterAt N 0 (Int32.ofInt x) h) (fM_letterAt N 232 (Int32.ofInt x)) := by
  obtain ⟨now, hist, snap, sv, inp, rep, rep', V, Y, hsv, hr, hl, o⟩ := J
  have ok := (zv_open V).1
  have zo' := zv_o V
  obtain ⟨sL, sT, sS, sK, wd, nu, hs, C, l1, l2, l3, l4, n1, n2, n3, l5, l6⟩ := yA_q V
  have e := zq_letterAt (N := N) C x hx
  rw [l2] at e
  exact yA_dir Y o V (zc_Fr h) e (fun g Yg => zn_letterAt (N := N) Yg ok x hx) hsv hr hl
theorem yA_undoCount (J : yA h c) (hN : 1000001 ≤ N) : yA_D (fB_undoCount N 0 h) (fM_undoCount N 232) := by
  obtain ⟨now, hist, snap, sv, inp, rep, rep', V, Y, hsv, hr, hl, o⟩ := J
  have ok := (zv_open V).1
  have zo' := zv_o V
  obtain ⟨sL, sT, sS, sK, wd, nu, hs, C, l1, l2, l3, l4, n1, n2, n3, l5, l6⟩ := yA_q V
  have e := zq_undoCount (N := N) C
  rw [n1] at e
  exact yA_dir Y o V (zc_Fr h) e (fun g Yg => zn_undoCount (N := N) Yg) hsv hr hl
theorem yA_factorCount (J : yA h c) (hN : 1000001 ≤ N) : yA_D (fB_factorCount N 0 h) (fM_factorCount N 232) := by
  obtain ⟨now, hist, snap, sv, inp, rep, rep', V, Y, hsv, hr, hl, o⟩ := J
  have ok := (zv_open V).1
  have zo' := zv_o V
  obtain ⟨sL, sT, sS, sK, wd, nu, hs, C, l1, l2, l3, l4, n1, n2, n3, l5, l6⟩ := yA_q V
  have e := zq_factorCount (N := N) C (by omega)
  rw [l2] at e
  exact yA_dir Y o V (zc_Fr h) e (fun g Yg => zn_factorCount (N := N) Yg ok (by omega)) hsv hr hl
theorem yA_longestFactor (J : yA h c) (hN : 1000001 ≤ N) : yA_D (fB_longestFactor N 0 h) (fM_longestFactor N 232) := by
  obtain ⟨now, hist, snap, sv, inp, rep, rep', V, Y, hsv, hr, hl, o⟩ := J
  have ok := (zv_open V).1
  have zo' := zv_o V
  obtain ⟨sL, sT, sS, sK, wd, nu, hs, C, l1, l2, l3, l4, n1, n2, n3, l5, l6⟩ := yA_q V
  have e := zq_longestFactor (N := N) C (by omega)
  rw [l2] at e
  exact yA_dir Y o V (zc_Fr h) e (fun g Yg => zn_longestFactor (N := N) Yg ok (by omega)) hsv hr hl
theorem yA_isLyndon (J : yA h c) (hN : 1000001 ≤ N) : yA_D (fB_isLyndon N 0 h) (fM_isLyndon N 232) := by
  obtain ⟨now, hist, snap, sv, inp, rep, rep', V, Y, hsv, hr, hl, o⟩ := J
  have ok := (zv_open V).1
  have zo' := zv_o V
  obtain ⟨sL, sT, sS, sK, wd, nu, hs, C, l1, l2, l3, l4, n1, n2, n3, l5, l6⟩ := yA_q V
  have e := zq_isLyndon (N := N) C (by omega)
  rw [l2] at e
  exact yA_dir Y o V (zc_Fr h) e (fun g Yg => zn_isLyndon (N := N) Yg ok (by omega)) hsv hr hl
theorem yA_isPrenecklace (J : yA h c) (hN : 1000001 ≤ N) : yA_D (fB_isPrenecklace N 0 h) (fM_isPrenecklace N 232) := by
  obtain ⟨now, hist, snap, sv, inp, rep, rep', V, Y, hsv, hr, hl, o⟩ := J
  have ok := (zv_open V).1
  have zo' := zv_o V
  obtain ⟨sL, sT, sS, sK, wd, nu, hs, C, l1, l2, l3, l4, n1, n2, n3, l5, l6⟩ := yA_q V
  have e := zq_isPrenecklace (N := N) C (by omega)
  rw [l2] at e
  exact yA_dir Y o V (zc_Fr h) e (fun g Yg => zn_isPrenecklace (N := N) Yg ok (by omega)) hsv hr hl
theorem yA_leastRotation (J : yA h c) (hN : 1000001 ≤ N) : yA_D (fB_leastRotation N 0 h) (fM_leastRotation N 232) := by
  obtain ⟨now, hist, snap, sv, inp, rep, rep', V, Y, hsv, hr, hl, o⟩ := J
  have ok := (zv_open V).1
  have zo' := zv_o V
  obtain ⟨sL, sT, sS, sK, wd, nu, hs, C, l1, l2, l3, l4, n1, n2, n3, l5, l6⟩ := yA_q V
  have e := zq_leastRotation (N := N) C (by omega)
  rw [l2] at e
  exact yA_dir Y o V (zc_Fr h) e (fun g Yg => zn_leastRotation (N := N) Yg ok (by omega)) hsv hr hl
theorem yA_rotationCount (J : yA h c) (hN : 1000001 ≤ N) : yA_D (fB_rotationCount N 0 h) (fM_rotationCount N 232) := by
  obtain ⟨now, hist, snap, sv, inp, rep, rep', V, Y, hsv, hr, hl, o⟩ := J
  have ok := (zv_open V).1
  have zo' := zv_o V
  obtain ⟨sL, sT, sS, sK, wd, nu, hs, C, l1, l2, l3, l4, n1, n2, n3, l5, l6⟩ := yA_q V
  have e := zq_rotationCount (N := N) C (by omega)
  rw [l2] at e
  exact yA_dir Y o V (zc_Fr h) e (fun g Yg => zn_rotationCount (N := N) Yg ok (by omega)) hsv hr hl
theorem yA_smallestPeriod (J : yA h c) (hN : 1000001 ≤ N) : yA_D (fB_smallestPeriod N 0 h) (fM_smallestPeriod N 232) := by
  obtain ⟨now, hist, snap, sv, inp, rep, rep', V, Y, hsv, hr, hl, o⟩ := J
  have ok := (zv_open V).1
  have zo' := zv_o V
  obtain ⟨sL, sT, sS, sK, wd, nu, hs, C, l1, l2, l3, l4, n1, n2, n3, l5, l6⟩ := yA_q V
  have e := zq_smallestPeriod (N := N) C (by omega)
  rw [l2] at e
  exact yA_dir Y o V (zc_Fr h) e (fun g Yg => zn_smallestPeriod (N := N) Yg ok (by omega)) hsv hr hl
theorem yA_longestBorder (J : yA h c) (hN : 1000001 ≤ N) : yA_D (fB_longestBorder N 0 h) (fM_longestBorder N 232) := by
  obtain ⟨now, hist, snap, sv, inp, rep, rep', V, Y, hsv, hr, hl, o⟩ := J
  have ok := (zv_open V).1
  have zo' := zv_o V
  obtain ⟨sL, sT, sS, sK, wd, nu, hs, C, l1, l2, l3, l4, n1, n2, n3, l5, l6⟩ := yA_q V
  have e := zq_longestBorder (N := N) C (by omega)
  rw [l2] at e
  exact yA_dir Y o V (zc_Fr h) e (fun g Yg => zn_longestBorder (N := N) Yg ok (by omega)) hsv hr hl
theorem yA_leastSuffix (J : yA h c) (hN : 1000001 ≤ N) : yA_D (fB_leastSuffix N 0 h) (fM_leastSuffix N 232) := by
  obtain ⟨now, hist, snap, sv, inp, rep, rep', V, Y, hsv, hr, hl, o⟩ := J
  have ok := (zv_open V).1
  have zo' := zv_o V
  obtain ⟨sL, sT, sS, sK, wd, nu, hs, C, l1, l2, l3, l4, n1, n2, n3, l5, l6⟩ := yA_q V
  have e := zq_leastSuffix (N := N) C (by omega)
  rw [l2] at e
  exact yA_dir Y o V (zc_Fr h) e (fun g Yg => zn_leastSuffix (N := N) Yg ok (by omega)) hsv hr hl
theorem yA_greatestSuffix (J : yA h c) (hN : 1000001 ≤ N) : yA_D (fB_greatestSuffix N 0 h) (fM_greatestSuffix N 232) := by
  obtain ⟨now, hist, snap, sv, inp, rep, rep', V, Y, hsv, hr, hl, o⟩ := J
  have ok := (zv_open V).1
  have zo' := zv_o V
  obtain ⟨sL, sT, sS, sK, wd, nu, hs, C, l1, l2, l3, l4, n1, n2, n3, l5, l6⟩ := yA_q V
  have e := zq_greatestSuffix (N := N) C (by omega)
  rw [l2] at e
  exact yA_dir Y o V (zc_Fr h) e (fun g Yg => zn_greatestSuffix (N := N) Yg ok (by omega)) hsv hr hl
theorem yA_whyNotLyndon (J : yA h c) (hN : 1000001 ≤ N) : yA_D (fB_whyNotLyndon N 0 h) (fM_whyNotLyndon N 232) := by
  obtain ⟨now, hist, snap, sv, inp, rep, rep', V, Y, hsv, hr, hl, o⟩ := J
  have ok := (zv_open V).1
  have zo' := zv_o V
  obtain ⟨sL, sT, sS, sK, wd, nu, hs, C, l1, l2, l3, l4, n1, n2, n3, l5, l6⟩ := yA_q V
  have e := zq_whyNotLyndon (N := N) C (by omega)
  rw [l2] at e
  exact yA_dir Y o V (zc_Fr h) e (fun g Yg => zn_whyNotLyndon (N := N) Yg ok (by omega)) hsv hr hl
theorem yA_isNecklace (J : yA h c) (hN : 1000001 ≤ N) : yA_D (fB_isNecklace N 0 h) (fM_isNecklace N 232) := by
  obtain ⟨now, hist, snap, sv, inp, rep, rep', V, Y, hsv, hr, hl, o⟩ := J
  have ok := (zv_open V).1
  have zo' := zv_o V
  obtain ⟨sL, sT, sS, sK, wd, nu, hs, C, l1, l2, l3, l4, n1, n2, n3, l5, l6⟩ := yA_q V
  have e := zq_isNecklace (N := N) C (by omega)
  rw [l2] at e
  exact yA_dir Y o V (zc_Fr h) e (fun g Yg => zn_isNecklace (N := N) Yg ok (by omega)) hsv hr hl
theorem yA_meanFactor (J : yA h c) (hN : 1000001 ≤ N) : yA_D (fB_meanFactor N 0 h) (fM_meanFactor N 232) := by
  obtain ⟨now, hist, snap, sv, inp, rep, rep', V, Y, hsv, hr, hl, o⟩ := J
  have ok := (zv_open V).1
  have zo' := zv_o V
  obtain ⟨sL, sT, sS, sK, wd, nu, hs, C, l1, l2, l3, l4, n1, n2, n3, l5, l6⟩ := yA_q V
  have e := zq_meanFactor (N := N) C (by omega)
  rw [l2] at e
  exact yA_dir Y o V (zc_Fr h) e (fun g Yg => zn_meanFactor (N := N) Yg ok (by omega)) hsv hr hl
theorem yA_keepingLetter (J : yA h c) (hN : 1000001 ≤ N) : yA_D (fB_keepingLetter N 0 h) (fM_keepingLetter N 232) := by
  obtain ⟨now, hist, snap, sv, inp, rep, rep', V, Y, hsv, hr, hl, o⟩ := J
  have ok := (zv_open V).1
  have zo' := zv_o V
  obtain ⟨sL, sT, sS, sK, wd, nu, hs, C, l1, l2, l3, l4, n1, n2, n3, l5, l6⟩ := yA_q V
  have e := zq_keepingLetter (N := N) C (by omega)
  rw [l2] at e
  exact yA_dir Y o V (zc_Fr h) e (fun g Yg => zn_keepingLetter (N := N) Yg ok (by omega)) hsv hr hl
theorem yA_factorOf (J : yA h c) (hN : 1000001 ≤ N) (x : Int) (hx : -2147483648 ≤ x ∧ x < 2147483648) : yA_D (fB_factorOf N 0 (Int32.ofInt x) h) (fM_factorOf N 232 (Int32.ofInt x)) := by
  obtain ⟨now, hist, snap, sv, inp, rep, rep', V, Y, hsv, hr, hl, o⟩ := J
  have ok := (zv_open V).1
  have zo' := zv_o V
  obtain ⟨sL, sT, sS, sK, wd, nu, hs, C, l1, l2, l3, l4, n1, n2, n3, l5, l6⟩ := yA_q V
  have e := zq_factorOf (N := N) C (by omega) x hx
  rw [l2] at e
  exact yA_dir Y o V (zc_Fr h) e (fun g Yg => zn_factorOf (N := N) Yg ok (by omega) x hx) hsv hr hl
theorem yA_violations (J : yA h c) (hN : 1000001 ≤ N) : yA_D (fB_violations N 0 h) (fM_violations N 232) := by
  obtain ⟨now, hist, snap, sv, inp, rep, rep', V, Y, hsv, hr, hl, o⟩ := J
  have ok := (zv_open V).1
  have zo' := zv_o V
  obtain ⟨sL, sT, sS, sK, wd, nu, hs, C, l1, l2, l3, l4, n1, n2, n3, l5, l6⟩ := yA_q V
  have e := zq_violations (N := N) C (by omega)
  exact yA_dir Y o V (zc_Fr h) e (fun g Yg => zn_violations (N := N) Yg ok (by omega)) hsv hr hl
theorem yA_greatestKept (J : yA h c) (hN : 1000001 ≤ N) : yA_D (fB_greatestKept N 0 h) (fM_greatestKept N 232) := by
  obtain ⟨now, hist, snap, sv, inp, rep, rep', V, Y, hsv, hr, hl, o⟩ := J
  have ok := (zv_open V).1
  have zo' := zv_o V
  obtain ⟨sL, sT, sS, sK, wd, nu, hs, C, l1, l2, l3, l4, n1, n2, n3, l5, l6⟩ := yA_q V
  have e := zq_greatestKept (N := N) C (by omega)
  rw [l3, zs_gc (S' := fun j => now.2.2.getD j []) (K := now.2.2.length) l4 now.2.2.length 0 none (by omega) (fun j hj => by cases hj)] at e
  exact yA_dir Y o V (zc_Fr h) e (fun g Yg => zn_greatestKept (N := N) Yg ok (by omega)) hsv hr hl
theorem yA_isShelfFalling (J : yA h c) (hN : 1000001 ≤ N) : yA_D (fB_isShelfFalling N 0 h) (fM_isShelfFalling N 232) := by
  obtain ⟨now, hist, snap, sv, inp, rep, rep', V, Y, hsv, hr, hl, o⟩ := J
  have ok := (zv_open V).1
  have zo' := zv_o V
  obtain ⟨sL, sT, sS, sK, wd, nu, hs, C, l1, l2, l3, l4, n1, n2, n3, l5, l6⟩ := yA_q V
  have e := zq_isShelfFalling (N := N) C (by omega)
  rw [l3, zc_fallc (S' := fun j => now.2.2.getD j []) (K := now.2.2.length) l4 (now.2.2.length - 1) (by omega)] at e
  exact yA_dir Y o V (zc_Fr h) e (fun g Yg => zn_isShelfFalling (N := N) Yg ok (by omega)) hsv hr hl
theorem yA_reportByte (J : yA h c) (hN : 1000001 ≤ N) (x : Int) (hx : -2147483648 ≤ x ∧ x < 2147483648) : yA_D (fB_reportByte N 0 (Int32.ofInt x) h) (fM_reportByte N 232 (Int32.ofInt x)) := by
  obtain ⟨now, hist, snap, sv, inp, rep, rep', V, Y, hsv, hr, hl, o⟩ := J
  have ok := (zv_open V).1
  have zo' := zv_o V
  obtain ⟨sL, sT, sS, sK, wd, nu, hs, C, l1, l2, l3, l4, n1, n2, n3, l5, l6⟩ := yA_q V
  have e := zq_reportByte (N := N) C x hx
  rw [l5, ← hr] at e
  exact yA_dir Y o V (zc_Fr h) e (fun g Yg => zn_reportByte (N := N) Yg (by rw [hr]; omega) x hx) hsv hr hl
theorem yA_reverse (J : yA h c) (hN : 1000001 ≤ N) : yA_D (fB_reverse N 0 h) (fM_reverse N 232) := by
  obtain ⟨now, hist, snap, sv, inp, rep, rep', V, Y, hsv, hr, hl, o⟩ := J
  have ok := (zv_open V).1
  have zo' := zv_o V
  obtain ⟨h1, e, V1, F1⟩ := zk_reverse (N := N) V (by omega)
  exact yA_dir Y o V1 F1 e (fun g Yg => zn_reverse (N := N) Yg zo' (by omega)) hsv hr hl
theorem yA_saveSnapshot (J : yA h c) (hN : 1000001 ≤ N) : yA_D (fB_saveSnapshot N 0 h) (fM_saveSnapshot N 232) := by
  obtain ⟨now, hist, snap, sv, inp, rep, rep', V, Y, hsv, hr, hl, o⟩ := J
  have ok := (zv_open V).1
  have zo' := zv_o V
  obtain ⟨h1, e, V1, F1⟩ := zk_saveSnapshot (N := N) V (by omega)
  exact yA_dir Y o V1 F1 e (fun g Yg => zn_saveSnapshot (N := N) Yg zo' (by omega)) (Or.inr rfl) hr hl
theorem zy_undo0 {now snap : zA} {hist : List zA} {sv t : Int} {inp : List Nat} {rep : zvP} (Y : zy h now hist snap sv inp rep t) (e : hist = []) : ∃ g', fM_undo N 232 h = some (Int32.ofInt (-1), g') ∧ zy g' now hist snap sv inp rep 0 ∧ zr_F h g' := by
  obtain ⟨h1, e1, Y1, F1⟩ := zy_throw Y 0
  obtain ⟨fl0, a0, H0, R0⟩ := Y
  obtain ⟨fl, a, H, R⟩ := id Y1
  refine ⟨h1, ?_, Y1, F1⟩
  unfold fM_undo
  rw [zr_T H0, cond_true, e1, b1_s, zr_i H 4 rfl, b1_s, R.2.1, e]
  rfl
theorem yA_undo (J : yA h c) (hN : 1000001 ≤ N) : yA_D (fB_undo N 0 h) (fM_undo N 232) := by
  obtain ⟨now, hist, snap, sv, inp, rep, rep', V, Y, hsv, hr, hl, o⟩ := J
  have ok := (zv_open V).1
  have zo' := zv_o V
  rcases zk_undo (N := N) V (by omega) with ⟨p1, e⟩ | ⟨A, r, p1, h1, e, V1, F1⟩
  · exact yA_dir Y o V (zc_Fr h) e (fun g Yg => by
      rcases zn_undo (N := N) Yg zo' (by omega) with ⟨q1, q⟩ | q
      · exact q
      · obtain ⟨g', q1, q2, q3⟩ := zy_undo0 (N := N) Yg p1
        exact ⟨g', q1, q2, q3⟩) hsv hr hl
  · exact yA_dir Y o V1 F1 e (fun g Yg => by
      rcases zn_undo (N := N) Yg zo' (by omega) with ⟨q1, q⟩ | q
      · rw [q1] at p1
        exact absurd p1.symm (List.append_ne_nil_of_right_ne_nil r (List.cons_ne_nil A []))
      · exact q A r p1) hsv hr hl
theorem yA_append (J : yA h c) (hN : 1000001 ≤ N) (a b d e f : Int32) : yA_D (fB_append N 0 a b d e f h) (fM_append N 232 a b d e f) := by
  obtain ⟨now, hist, snap, sv, inp, rep, rep', V, Y, hsv, hr, hl, o⟩ := J
  have ok := (zv_open V).1
  have zo' := zv_o V
  have il := (zv_inp V).1.2.2.2.1
  rcases zk_append (N := N) V (by omega) a b d e f with ⟨p1, e1⟩ | ⟨p1, h1, e1, V1, F1⟩
  · exact yA_dir Y o V (zc_Fr h) e1 (fun g Yg => by
      rcases zn_append (N := N) Yg (by omega) il a b d e f with ⟨q1, q⟩ | ⟨q1, q⟩
      · exact q
      · omega) hsv hr hl
  · exact yA_dir Y o V1 F1 e1 (fun g Yg => by
      rcases zn_append (N := N) Yg (by omega) il a b d e f with ⟨q1, q⟩ | ⟨q1, q⟩
      · omega
      · exact q) hsv hr hl
theorem yA_writeFactors (J : yA h c) (hN : 1000001 ≤ N) : yA_D (fB_writeFactors N 0 h) (fM_writeFactors N 232) := by
  obtain ⟨now, hist, snap, sv, inp, rep, rep', V, Y, hsv, hr, hl, o⟩ := J
  have ok := (zv_open V).1
  have zo' := zv_o V
  obtain ⟨h1, e, V1, F1⟩ := zk_writeFactors (N := N) V (by omega)
  exact yA_dir Y o V1 F1 e (fun g Yg => zn_writeFactors (N := N) Yg ok (by omega)) hsv rfl (yu_replen ok.2.1)
theorem yA_runScript (J : yA h c) (hN : 1000001 ≤ N) : yA_D (fB_runScript N 0 h) (fM_runScript N 232) := by
  obtain ⟨now, hist, snap, sv, inp, rep, rep', V, Y, hsv, hr, hl, o⟩ := J
  have ok := (zv_open V).1
  have zo' := zv_o V
  have W := (zv_inp V).1
  obtain ⟨k, q, r⟩ := zk_runScript (N := N) V hN
  have rf : ∀ g, zy g now hist snap sv inp rep' c → _ := fun g Yg => zn_runScript (N := N) Yg zo' (by omega) W.2.2.2.1 W.2.2.2.2.2
  rcases r with ⟨p1, h1, e, V1, F1⟩ | ⟨A, p1, h1, e, V1, F1⟩
  · obtain ⟨k2, q2, r2⟩ := rf h1 (zy_frame Y F1)
    rcases r2 with ⟨_, g', e2, Y2, F2⟩ | ⟨A2, p2, _⟩
    · exact ⟨_, h1, g', e, e2, yA_of V1 F2 Y2 hsv hr hl (by rw [F1.2 243 (by decide)]; exact o)⟩
    · rw [p1] at p2
      cases p2
  · obtain ⟨k2, q2, r2⟩ := rf h1 (zy_frame Y F1)
    rcases r2 with ⟨p2, _⟩ | ⟨A2, p2, g', e2, Y2, F2⟩
    · rw [p1] at p2
      cases p2
    · rw [p1] at p2
      cases p2
      exact ⟨_, h1, g', e, e2, yA_of V1 F2 Y2 hsv hr hl (by rw [F1.2 243 (by decide)]; exact o)⟩
theorem yA_scriptErrorKind (J : yA h c) (hN : 1000001 ≤ N) : yA_E (fB_scriptErrorKind N 0 h) (fM_scriptErrorKind N 232) := by
  obtain ⟨now, hist, snap, sv, inp, rep, rep', V, Y, hsv, hr, hl, o⟩ := J
  have ok := (zv_open V).1
  have zo' := zv_o V
  obtain ⟨sL, sT, sS, sK, wd, nu, hs, C, l1, l2, l3, l4, n1, n2, n3, l5, l6⟩ := yA_q V
  have e := zq_kind (N := N) C
  exact yA_dirE Y o V (zc_Fr h) e (fun g Yg => ⟨_, zn_scriptErrorKind (N := N) Yg⟩) hsv hr hl
theorem yA_scriptErrorOffset (J : yA h c) (hN : 1000001 ≤ N) : yA_E (fB_scriptErrorOffset N 0 h) (fM_scriptErrorOffset N 232) := by
  obtain ⟨now, hist, snap, sv, inp, rep, rep', V, Y, hsv, hr, hl, o⟩ := J
  have ok := (zv_open V).1
  have zo' := zv_o V
  obtain ⟨sL, sT, sS, sK, wd, nu, hs, C, l1, l2, l3, l4, n1, n2, n3, l5, l6⟩ := yA_q V
  have e := zq_offset (N := N) C
  exact yA_dirE Y o V (zc_Fr h) e (fun g Yg => ⟨_, zn_scriptErrorOffset (N := N) Yg⟩) hsv hr hl
theorem yA_lyndonShare (J : yA h c) (hN : 1000001 ≤ N) : ∃ L, (2 ≤ L ∧ L ≤ 9) ∧ ∃ h1 h2, fB_lyndonShare N 0 h = some (yd_share L, h1) ∧ fM_lyndonShare N 232 h1 = some (yd_share L, h2) ∧ yA h2 0 := by
  obtain ⟨now, hist, snap, sv, inp, rep, rep', V, Y, hsv, hr, hl, o⟩ := J
  have ok := (zv_open V).1
  have zo' := zv_o V
  have e := zk_lyndonShare (N := N) V (by omega)
  obtain ⟨g', e2, Y2, F2⟩ := zn_lyndonShare (N := N) Y ok (by omega)
  exact ⟨now.1, ok.1, h, g', e, e2, yA_of V F2 Y2 hsv hr hl o⟩
theorem yA_dropLast (J : yA h c) (hN : 1000001 ≤ N) (x : Int) (hx : -2147483648 ≤ x ∧ x < 2147483648) : yA_T (fL_dropLast N 0 (Int32.ofInt x) 243 h) (fM_dropLast N 232 (Int32.ofInt x)) := by
  obtain ⟨now, hist, snap, sv, inp, rep, rep', V, Y, hsv, hr, hl, o⟩ := J
  have ok := (zv_open V).1
  have zo' := zv_o V
  rcases zk_dropLast (N := N) V (by omega) x hx with ⟨p1, e⟩ | ⟨p1, h1, e, V1, F1⟩
  · exact yA_thr Y o V e 1 rfl (by decide) (fun g Yg => by
      rcases zn_dropLast (N := N) Yg zo' (by omega) x hx with ⟨q1, q⟩ | ⟨q1, q⟩ <;> (first | exact q | exact absurd p1 q1 | exact absurd q1 p1 | omega | exact absurd (p1.symm.trans q1) (by decide) | exact absurd (p2.symm.trans q2) (by decide))) hsv hr hl
  · exact yA_ret Y o V1 F1 e (fun g Yg => by
      rcases zn_dropLast (N := N) Yg zo' (by omega) x hx with ⟨q1, q⟩ | ⟨q1, q⟩ <;> (first | exact q | exact absurd p1 q1 | exact absurd q1 p1 | omega | exact absurd (p1.symm.trans q1) (by decide) | exact absurd (p2.symm.trans q2) (by decide))) hsv hr hl
theorem yA_cutPart (J : yA h c) (hN : 1000001 ≤ N) (x : Int) (hx : -2147483648 ≤ x ∧ x < 2147483648) (y : Int) (hy : -2147483648 ≤ y ∧ y < 2147483648) : yA_T (fL_cutPart N 0 (Int32.ofInt x) (Int32.ofInt y) 243 h) (fM_cutPart N 232 (Int32.ofInt x) (Int32.ofInt y)) := by
  obtain ⟨now, hist, snap, sv, inp, rep, rep', V, Y, hsv, hr, hl, o⟩ := J
  have ok := (zv_open V).1
  have zo' := zv_o V
  rcases zk_cutPart (N := N) V (by omega) x y hx hy with ⟨p1, e⟩ | ⟨p1, h1, e, V1, F1⟩
  · exact yA_thr Y o V e 1 rfl (by decide) (fun g Yg => by
      rcases zn_cutPart (N := N) Yg zo' (by omega) x y hx hy with ⟨q1, q⟩ | ⟨q1, q⟩ <;> (first | exact q | exact absurd p1 q1 | exact absurd q1 p1 | omega | exact absurd (p1.symm.trans q1) (by decide) | exact absurd (p2.symm.trans q2) (by decide))) hsv hr hl
  · exact yA_ret Y o V1 F1 e (fun g Yg => by
      rcases zn_cutPart (N := N) Yg zo' (by omega) x y hx hy with ⟨q1, q⟩ | ⟨q1, q⟩ <;> (first | exact q | exact absurd p1 q1 | exact absurd q1 p1 | omega | exact absurd (p1.symm.trans q1) (by decide) | exact absurd (p2.symm.trans q2) (by decide))) hsv hr hl
theorem yA_rotate (J : yA h c) (hN : 1000001 ≤ N) (x : Int) (hx : -2147483648 ≤ x ∧ x < 2147483648) : yA_T (fL_rotate N 0 (Int32.ofInt x) 243 h) (fM_rotate N 232 (Int32.ofInt x)) := by
  obtain ⟨now, hist, snap, sv, inp, rep, rep', V, Y, hsv, hr, hl, o⟩ := J
  have ok := (zv_open V).1
  have zo' := zv_o V
  rcases zk_rotate (N := N) V (by omega) x hx with ⟨p1, e⟩ | ⟨p1, h1, e, V1, F1⟩
  · exact yA_thr Y o V e 1 rfl (by decide) (fun g Yg => by
      rcases zn_rotate (N := N) Yg zo' (by omega) x hx with ⟨q1, q⟩ | ⟨q1, q⟩ <;> (first | exact q | exact absurd p1 q1 | exact absurd q1 p1 | omega | exact absurd (p1.symm.trans q1) (by decide) | exact absurd (p2.symm.trans q2) (by decide))) hsv hr hl
  · exact yA_ret Y o V1 F1 e (fun g Yg => by
      rcases zn_rotate (N := N) Yg zo' (by omega) x hx with ⟨q1, q⟩ | ⟨q1, q⟩ <;> (first | exact q | exact absurd p1 q1 | exact absurd q1 p1 | omega | exact absurd (p1.symm.trans q1) (by decide) | exact absurd (p2.symm.trans q2) (by decide))) hsv hr hl
theorem yA_rotateToLeast (J : yA h c) (hN : 1000001 ≤ N) : yA_T (fL_rotateToLeast N 0 243 h) (fM_rotateToLeast N 232) := by
  obtain ⟨now, hist, snap, sv, inp, rep, rep', V, Y, hsv, hr, hl, o⟩ := J
  have ok := (zv_open V).1
  have zo' := zv_o V
  rcases zk_rotateToLeast (N := N) V (by omega) with ⟨p1, e⟩ | ⟨p1, h1, e, V1, F1⟩
  · exact yA_thr Y o V e 1 rfl (by decide) (fun g Yg => by
      rcases zn_rotateToLeast (N := N) Yg zo' (by omega) with ⟨q1, q⟩ | ⟨q1, q⟩ <;> (first | exact q | exact absurd p1 q1 | exact absurd q1 p1 | omega | exact absurd (p1.symm.trans q1) (by decide) | exact absurd (p2.symm.trans q2) (by decide))) hsv hr hl
  · exact yA_ret Y o V1 F1 e (fun g Yg => by
      rcases zn_rotateToLeast (N := N) Yg zo' (by omega) with ⟨q1, q⟩ | ⟨q1, q⟩ <;> (first | exact q | exact absurd p1 q1 | exact absurd q1 p1 | omega | exact absurd (p1.symm.trans q1) (by decide) | exact absurd (p2.symm.trans q2) (by decide))) hsv hr hl
theorem yA_keepText (J : yA h c) (hN : 1000001 ≤ N) : yA_T (fL_keepText N 0 243 h) (fM_keepText N 232) := by
  obtain ⟨now, hist, snap, sv, inp, rep, rep', V, Y, hsv, hr, hl, o⟩ := J
  have ok := (zv_open V).1
  have zo' := zv_o V
  rcases zk_keepText (N := N) V (by omega) with ⟨p1, e⟩ | ⟨p1, h1, e, V1, F1⟩
  · exact yA_thr Y o V e 1 rfl (by decide) (fun g Yg => by
      rcases zn_keepText (N := N) Yg zo' (by omega) with ⟨q1, q⟩ | ⟨q1, q⟩ <;> (first | exact q | exact absurd p1 q1 | exact absurd q1 p1 | omega | exact absurd (p1.symm.trans q1) (by decide) | exact absurd (p2.symm.trans q2) (by decide))) hsv hr hl
  · exact yA_ret Y o V1 F1 e (fun g Yg => by
      rcases zn_keepText (N := N) Yg zo' (by omega) with ⟨q1, q⟩ | ⟨q1, q⟩ <;> (first | exact q | exact absurd p1 q1 | exact absurd q1 p1 | omega | exact absurd (p1.symm.trans q1) (by decide) | exact absurd (p2.symm.trans q2) (by decide))) hsv hr hl
theorem yA_removeKept (J : yA h c) (hN : 1000001 ≤ N) (x : Int) (hx : -2147483648 ≤ x ∧ x < 2147483648) : yA_T (fL_removeKept N 0 (Int32.ofInt x) 243 h) (fM_removeKept N 232 (Int32.ofInt x)) := by
  obtain ⟨now, hist, snap, sv, inp, rep, rep', V, Y, hsv, hr, hl, o⟩ := J
  have ok := (zv_open V).1
  have zo' := zv_o V
  rcases zk_removeKept (N := N) V (by omega) x hx with ⟨p1, e⟩ | ⟨p1, h1, e, V1, F1⟩
  · exact yA_thr Y o V e 1 rfl (by decide) (fun g Yg => by
      rcases zn_removeKept (N := N) Yg zo' (by omega) x hx with ⟨q1, q⟩ | ⟨q1, q⟩ <;> (first | exact q | exact absurd p1 q1 | exact absurd q1 p1 | omega | exact absurd (p1.symm.trans q1) (by decide) | exact absurd (p2.symm.trans q2) (by decide))) hsv hr hl
  · exact yA_ret Y o V1 F1 e (fun g Yg => by
      rcases zn_removeKept (N := N) Yg zo' (by omega) x hx with ⟨q1, q⟩ | ⟨q1, q⟩ <;> (first | exact q | exact absurd p1 q1 | exact absurd q1 p1 | omega | exact absurd (p1.symm.trans q1) (by decide) | exact absurd (p2.symm.trans q2) (by decide))) hsv hr hl
theorem yA_joinKept (J : yA h c) (hN : 1000001 ≤ N) : yA_T (fL_joinKept N 0 243 h) (fM_joinKept N 232) := by
  obtain ⟨now, hist, snap, sv, inp, rep, rep', V, Y, hsv, hr, hl, o⟩ := J
  have ok := (zv_open V).1
  have zo' := zv_o V
  rcases zk_joinKept (N := N) V (by omega) with ⟨p1, e⟩ | ⟨p1, h1, e, V1, F1⟩
  · exact yA_thr Y o V e 1 rfl (by decide) (fun g Yg => by
      rcases zn_joinKept (N := N) Yg zo' (by omega) with ⟨q1, q⟩ | ⟨q1, q⟩ <;> (first | exact q | exact absurd p1 q1 | exact absurd q1 p1 | omega | exact absurd (p1.symm.trans q1) (by decide) | exact absurd (p2.symm.trans q2) (by decide))) hsv hr hl
  · exact yA_ret Y o V1 F1 e (fun g Yg => by
      rcases zn_joinKept (N := N) Yg zo' (by omega) with ⟨q1, q⟩ | ⟨q1, q⟩ <;> (first | exact q | exact absurd p1 q1 | exact absurd q1 p1 | omega | exact absurd (p1.symm.trans q1) (by decide) | exact absurd (p2.symm.trans q2) (by decide))) hsv hr hl
theorem yA_restoreSnapshot (J : yA h c) (hN : 1000001 ≤ N) : yA_T (fL_restoreSnapshot N 0 243 h) (fM_restoreSnapshot N 232) := by
  obtain ⟨now, hist, snap, sv, inp, rep, rep', V, Y, hsv, hr, hl, o⟩ := J
  have ok := (zv_open V).1
  have zo' := zv_o V
  rcases zk_restoreSnapshot (N := N) V (by omega) hsv with ⟨p1, e⟩ | ⟨p1, h1, e, V1, F1⟩
  · exact yA_thr Y o V e 1 rfl (by decide) (fun g Yg => by
      rcases zn_restoreSnapshot (N := N) Yg zo' (by omega) hsv with ⟨q1, q⟩ | ⟨q1, q⟩ <;> (first | exact q | exact absurd p1 q1 | exact absurd q1 p1 | omega | exact absurd (p1.symm.trans q1) (by decide) | exact absurd (p2.symm.trans q2) (by decide))) hsv hr hl
  · exact yA_ret Y o V1 F1 e (fun g Yg => by
      rcases zn_restoreSnapshot (N := N) Yg zo' (by omega) hsv with ⟨q1, q⟩ | ⟨q1, q⟩ <;> (first | exact q | exact absurd p1 q1 | exact absurd q1 p1 | omega | exact absurd (p1.symm.trans q1) (by decide) | exact absurd (p2.symm.trans q2) (by decide))) hsv hr hl
theorem yA_truncateInput (J : yA h c) (hN : 1000001 ≤ N) (x : Int) (hx : -2147483648 ≤ x ∧ x < 2147483648) : yA_T (fL_truncateInput N 0 (Int32.ofInt x) 243 h) (fM_truncateInput N 232 (Int32.ofInt x)) := by
  obtain ⟨now, hist, snap, sv, inp, rep, rep', V, Y, hsv, hr, hl, o⟩ := J
  have ok := (zv_open V).1
  have zo' := zv_o V
  have il := (zv_inp V).1.2.2.2.1
  rcases zk_truncateInput (N := N) V (by omega) x hx with ⟨p1, e⟩ | ⟨p1, h1, e, V1, F1⟩
  · exact yA_thr Y o V e 1 rfl (by decide) (fun g Yg => by
      rcases zn_truncateInput (N := N) Yg il x hx with ⟨q1, q⟩ | ⟨q1, q⟩ <;> (first | exact q | exact absurd p1 q1 | exact absurd q1 p1 | omega | exact absurd (p1.symm.trans q1) (by decide) | exact absurd (p2.symm.trans q2) (by decide))) hsv hr hl
  · exact yA_ret Y o V1 F1 e (fun g Yg => by
      rcases zn_truncateInput (N := N) Yg il x hx with ⟨q1, q⟩ | ⟨q1, q⟩ <;> (first | exact q | exact absurd p1 q1 | exact absurd q1 p1 | omega | exact absurd (p1.symm.trans q1) (by decide) | exact absurd (p2.symm.trans q2) (by decide))) hsv hr hl
theorem yA_readText (J : yA h c) (hN : 1000001 ≤ N) : yA_T (fL_readText N 0 243 h) (fM_readText N 232) := by
  obtain ⟨now, hist, snap, sv, inp, rep, rep', V, Y, hsv, hr, hl, o⟩ := J
  have ok := (zv_open V).1
  have zo' := zv_o V
  have W := (zv_inp V).1
  rcases zk_readText (N := N) V (by omega) with ⟨p1, e⟩ | ⟨p1, h1, e, V1, F1⟩
  · exact yA_thr Y o V e 1 rfl (by decide) (fun g Yg => by
      rcases zn_readText (N := N) Yg zo' (by omega) W.2.2.2.1 W.2.2.2.2.2 with ⟨q1, q⟩ | ⟨q1, q⟩ <;> (first | exact q | exact absurd p1 q1 | exact absurd q1 p1 | omega | exact absurd (p1.symm.trans q1) (by decide) | exact absurd (p2.symm.trans q2) (by decide))) hsv hr hl
  · exact yA_ret Y o V1 F1 e (fun g Yg => by
      rcases zn_readText (N := N) Yg zo' (by omega) W.2.2.2.1 W.2.2.2.2.2 with ⟨q1, q⟩ | ⟨q1, q⟩ <;> (first | exact q | exact absurd p1 q1 | exact absurd q1 p1 | omega | exact absurd (p1.symm.trans q1) (by decide) | exact absurd (p2.symm.trans q2) (by decide))) hsv hr hl
theorem yA_appendLetter (J : yA h c) (hN : 1000001 ≤ N) (x : Int) (hx : -2147483648 ≤ x ∧ x < 2147483648) : yA_T (fL_appendLetter N 0 (Int32.ofInt x) 243 h) (fM_appendLetter N 232 (Int32.ofInt x)) := by
  obtain ⟨now, hist, snap, sv, inp, rep, rep', V, Y, hsv, hr, hl, o⟩ := J
  have ok := (zv_open V).1
  have zo' := zv_o V
  rcases zk_appendLetter (N := N) V (by omega) x hx with ⟨p1, e⟩ | ⟨p1, p2, e⟩ | ⟨p1, p2, h1, e, V1, F1⟩
  · exact yA_thr Y o V e 1 rfl (by decide) (fun g Yg => by
      rcases zn_appendLetter (N := N) Yg zo' (by omega) x hx with ⟨q1, q⟩ | ⟨q1, q2, q⟩ | ⟨q1, q2, q⟩ <;> (first | exact q | exact absurd p1 q1 | exact absurd q1 p1 | omega | exact absurd (p1.symm.trans q1) (by decide) | exact absurd (p2.symm.trans q2) (by decide))) hsv hr hl
  · exact yA_thr Y o V e 2 rfl (by decide) (fun g Yg => by
      rcases zn_appendLetter (N := N) Yg zo' (by omega) x hx with ⟨q1, q⟩ | ⟨q1, q2, q⟩ | ⟨q1, q2, q⟩ <;> (first | exact q | exact absurd p1 q1 | exact absurd q1 p1 | omega | exact absurd (p1.symm.trans q1) (by decide) | exact absurd (p2.symm.trans q2) (by decide))) hsv hr hl
  · exact yA_ret Y o V1 F1 e (fun g Yg => by
      rcases zn_appendLetter (N := N) Yg zo' (by omega) x hx with ⟨q1, q⟩ | ⟨q1, q2, q⟩ | ⟨q1, q2, q⟩ <;> (first | exact q | exact absurd p1 q1 | exact absurd q1 p1 | omega | exact absurd (p1.symm.trans q1) (by decide) | exact absurd (p2.symm.trans q2) (by decide))) hsv hr hl
theorem yA_setLetters (J : yA h c) (hN : 1000001 ≤ N) (x : Int) (hx : -2147483648 ≤ x ∧ x < 2147483648) : yA_T (fL_setLetters N 0 (Int32.ofInt x) 243 h) (fM_setLetters N 232 (Int32.ofInt x)) := by
  obtain ⟨now, hist, snap, sv, inp, rep, rep', V, Y, hsv, hr, hl, o⟩ := J
  have ok := (zv_open V).1
  have zo' := zv_o V
  rcases zk_setLetters (N := N) V (by omega) x hx with ⟨p1, e⟩ | ⟨p1, p2, e⟩ | ⟨p1, p2, h1, e, V1, F1⟩
  · exact yA_thr Y o V e 1 rfl (by decide) (fun g Yg => by
      rcases zn_setLetters (N := N) Yg zo' (by omega) x hx with ⟨q1, q⟩ | ⟨q1, q2, q⟩ | ⟨q1, q2, q⟩ <;> (first | exact q | exact absurd p1 q1 | exact absurd q1 p1 | omega | exact absurd (p1.symm.trans q1) (by decide) | exact absurd (p2.symm.trans q2) (by decide))) hsv hr hl
  · exact yA_thr Y o V e 2 rfl (by decide) (fun g Yg => by
      rcases zn_setLetters (N := N) Yg zo' (by omega) x hx with ⟨q1, q⟩ | ⟨q1, q2, q⟩ | ⟨q1, q2, q⟩ <;> (first | exact q | exact absurd p1 q1 | exact absurd q1 p1 | omega | exact absurd (p1.symm.trans q1) (by decide) | exact absurd (p2.symm.trans q2) (by decide))) hsv hr hl
  · exact yA_ret Y o V1 F1 e (fun g Yg => by
      rcases zn_setLetters (N := N) Yg zo' (by omega) x hx with ⟨q1, q⟩ | ⟨q1, q2, q⟩ | ⟨q1, q2, q⟩ <;> (first | exact q | exact absurd p1 q1 | exact absurd q1 p1 | omega | exact absurd (p1.symm.trans q1) (by decide) | exact absurd (p2.symm.trans q2) (by decide))) hsv hr hl
theorem yA_nextLyndon (J : yA h c) (hN : 1000001 ≤ N) (x : Int) (hx : -2147483648 ≤ x ∧ x < 2147483648) : yA_T (fL_nextLyndon N 0 (Int32.ofInt x) 243 h) (fM_nextLyndon N 232 (Int32.ofInt x)) := by
  obtain ⟨now, hist, snap, sv, inp, rep, rep', V, Y, hsv, hr, hl, o⟩ := J
  have ok := (zv_open V).1
  have zo' := zv_o V
  rcases zk_nextLyndon (N := N) V (by omega) x hx with ⟨p1, e⟩ | ⟨p1, p2, e⟩ | ⟨p1, p2, h1, e, V1, F1⟩
  · exact yA_thr Y o V e 1 rfl (by decide) (fun g Yg => by
      rcases zn_nextLyndon (N := N) Yg zo' (by omega) x hx with ⟨q1, q⟩ | ⟨q1, q2, q⟩ | ⟨q1, q2, q⟩ <;> (first | exact q | exact absurd p1 q1 | exact absurd q1 p1 | omega | exact absurd (p1.symm.trans q1) (by decide) | exact absurd (p2.symm.trans q2) (by decide))) hsv hr hl
  · exact yA_thr Y o V e 2 rfl (by decide) (fun g Yg => by
      rcases zn_nextLyndon (N := N) Yg zo' (by omega) x hx with ⟨q1, q⟩ | ⟨q1, q2, q⟩ | ⟨q1, q2, q⟩ <;> (first | exact q | exact absurd p1 q1 | exact absurd q1 p1 | omega | exact absurd (p1.symm.trans q1) (by decide) | exact absurd (p2.symm.trans q2) (by decide))) hsv hr hl
  · exact yA_ret Y o V1 F1 e (fun g Yg => by
      rcases zn_nextLyndon (N := N) Yg zo' (by omega) x hx with ⟨q1, q⟩ | ⟨q1, q2, q⟩ | ⟨q1, q2, q⟩ <;> (first | exact q | exact absurd p1 q1 | exact absurd q1 p1 | omega | exact absurd (p1.symm.trans q1) (by decide) | exact absurd (p2.symm.trans q2) (by decide))) hsv hr hl
theorem yA_keepFactor (J : yA h c) (hN : 1000001 ≤ N) (x : Int) (hx : -2147483648 ≤ x ∧ x < 2147483648) : yA_T (fL_keepFactor N 0 (Int32.ofInt x) 243 h) (fM_keepFactor N 232 (Int32.ofInt x)) := by
  obtain ⟨now, hist, snap, sv, inp, rep, rep', V, Y, hsv, hr, hl, o⟩ := J
  have ok := (zv_open V).1
  have zo' := zv_o V
  rcases zk_keepFactor (N := N) V (by omega) x hx with ⟨p1, e⟩ | ⟨b, p1, p2, ⟨p3, e⟩ | ⟨p3, h1, e, V1, F1⟩⟩
  · exact yA_thr Y o V e 1 rfl (by decide) (fun g Yg => by
      rcases zn_keepFactor (N := N) Yg zo' (by omega) x hx with ⟨q1, q⟩ | ⟨b', q1, q2, ⟨q3, q⟩ | ⟨q3, q⟩⟩
      · exact q
      · omega
      · omega) hsv hr hl
  · exact yA_thr Y o V e 2 rfl (by decide) (fun g Yg => by
      rcases zn_keepFactor (N := N) Yg zo' (by omega) x hx with ⟨q1, q⟩ | ⟨b', q1, q2, ⟨q3, q⟩ | ⟨q3, q⟩⟩
      · omega
      · exact q
      · have : b' = b := by omega
        subst this
        exact absurd q3 p3) hsv hr hl
  · exact yA_ret Y o V1 F1 e (fun g Yg => by
      rcases zn_keepFactor (N := N) Yg zo' (by omega) x hx with ⟨q1, q⟩ | ⟨b', q1, q2, ⟨q3, q⟩ | ⟨q3, q⟩⟩
      · omega
      · have : b' = b := by omega
        subst this
        exact absurd p3 q3
      · have : b' = b := by omega
        subst this
        exact q) hsv hr hl
theorem yA_factorStart (J : yA h c) (hN : 1000001 ≤ N) (x : Int) (hx : -2147483648 ≤ x ∧ x < 2147483648) : yA_T (fL_factorStart N 0 (Int32.ofInt x) 243 h) (fM_factorStart N 232 (Int32.ofInt x)) := by
  obtain ⟨now, hist, snap, sv, inp, rep, rep', V, Y, hsv, hr, hl, o⟩ := J
  have ok := (zv_open V).1
  have zo' := zv_o V
  obtain ⟨sL, sT, sS, sK, wd, nu, hs, C, l1, l2, l3, l4, n1, n2, n3, l5, l6⟩ := yA_q V
  have e := zq_factorStart (N := N) C (by omega) x hx
  rw [l2] at e
  by_cases p1 : zw_bF now.2.1 x = -1
  · rw [if_pos p1] at e
    exact yA_thr Y o V e 1 rfl (by decide) (fun g Yg => by
      rcases zn_factorStart (N := N) Yg ok (by omega) x hx with ⟨q1, q⟩ | ⟨q1, q⟩ <;> (first | exact q | exact absurd p1 q1 | exact absurd q1 p1 | omega | exact absurd (p1.symm.trans q1) (by decide) | exact absurd (p2.symm.trans q2) (by decide))) hsv hr hl
  · rw [if_neg p1] at e
    exact yA_ret Y o V (zc_Fr h) e (fun g Yg => by
      rcases zn_factorStart (N := N) Yg ok (by omega) x hx with ⟨q1, q⟩ | ⟨q1, q⟩ <;> (first | exact q | exact absurd p1 q1 | exact absurd q1 p1 | omega | exact absurd (p1.symm.trans q1) (by decide) | exact absurd (p2.symm.trans q2) (by decide))) hsv hr hl
theorem yA_factorLength (J : yA h c) (hN : 1000001 ≤ N) (x : Int) (hx : -2147483648 ≤ x ∧ x < 2147483648) : yA_T (fL_factorLength N 0 (Int32.ofInt x) 243 h) (fM_factorLength N 232 (Int32.ofInt x)) := by
  obtain ⟨now, hist, snap, sv, inp, rep, rep', V, Y, hsv, hr, hl, o⟩ := J
  have ok := (zv_open V).1
  have zo' := zv_o V
  obtain ⟨sL, sT, sS, sK, wd, nu, hs, C, l1, l2, l3, l4, n1, n2, n3, l5, l6⟩ := yA_q V
  have e := zq_factorLength (N := N) C (by omega) x hx
  rw [l2] at e
  by_cases p1 : zw_bF now.2.1 x = -1
  · rw [if_pos p1] at e
    exact yA_thr Y o V e 1 rfl (by decide) (fun g Yg => by
      rcases zn_factorLength (N := N) Yg ok (by omega) x hx with ⟨q1, q⟩ | ⟨q1, q⟩ <;> (first | exact q | exact absurd p1 q1 | exact absurd q1 p1 | omega | exact absurd (p1.symm.trans q1) (by decide) | exact absurd (p2.symm.trans q2) (by decide))) hsv hr hl
  · rw [if_neg p1] at e
    exact yA_ret Y o V (zc_Fr h) e (fun g Yg => by
      rcases zn_factorLength (N := N) Yg ok (by omega) x hx with ⟨q1, q⟩ | ⟨q1, q⟩ <;> (first | exact q | exact absurd p1 q1 | exact absurd q1 p1 | omega | exact absurd (p1.symm.trans q1) (by decide) | exact absurd (p2.symm.trans q2) (by decide))) hsv hr hl
theorem yA_factorPower (J : yA h c) (hN : 1000001 ≤ N) (x : Int) (hx : -2147483648 ≤ x ∧ x < 2147483648) : yA_T (fL_factorPower N 0 (Int32.ofInt x) 243 h) (fM_factorPower N 232 (Int32.ofInt x)) := by
  obtain ⟨now, hist, snap, sv, inp, rep, rep', V, Y, hsv, hr, hl, o⟩ := J
  have ok := (zv_open V).1
  have zo' := zv_o V
  obtain ⟨sL, sT, sS, sK, wd, nu, hs, C, l1, l2, l3, l4, n1, n2, n3, l5, l6⟩ := yA_q V
  have e := zq_factorPower (N := N) C (by omega) x hx
  rw [l2] at e
  by_cases p1 : zw_bF now.2.1 x = -1
  · rw [if_pos p1] at e
    exact yA_thr Y o V e 1 rfl (by decide) (fun g Yg => by
      rcases zn_factorPower (N := N) Yg ok (by omega) x hx with ⟨q1, q⟩ | ⟨q1, q⟩ <;> (first | exact q | exact absurd p1 q1 | exact absurd q1 p1 | omega | exact absurd (p1.symm.trans q1) (by decide) | exact absurd (p2.symm.trans q2) (by decide))) hsv hr hl
  · rw [if_neg p1] at e
    exact yA_ret Y o V (zc_Fr h) e (fun g Yg => by
      rcases zn_factorPower (N := N) Yg ok (by omega) x hx with ⟨q1, q⟩ | ⟨q1, q⟩ <;> (first | exact q | exact absurd p1 q1 | exact absurd q1 p1 | omega | exact absurd (p1.symm.trans q1) (by decide) | exact absurd (p2.symm.trans q2) (by decide))) hsv hr hl
theorem yA_keptLength (J : yA h c) (hN : 1000001 ≤ N) (x : Int) (hx : -2147483648 ≤ x ∧ x < 2147483648) : yA_T (fL_keptLength N 0 (Int32.ofInt x) 243 h) (fM_keptLength N 232 (Int32.ofInt x)) := by
  obtain ⟨now, hist, snap, sv, inp, rep, rep', V, Y, hsv, hr, hl, o⟩ := J
  have ok := (zv_open V).1
  have zo' := zv_o V
  obtain ⟨sL, sT, sS, sK, wd, nu, hs, C, l1, l2, l3, l4, n1, n2, n3, l5, l6⟩ := yA_q V
  have e := zq_keptLength (N := N) C x hx
  rw [l3] at e
  by_cases p1 : 0 ≤ x ∧ x < (now.2.2.length : Int)
  · rw [if_pos p1, l4 x.toNat (by omega)] at e
    exact yA_ret Y o V (zc_Fr h) e (fun g Yg => by
      rcases zn_keptLength (N := N) Yg ok x hx with ⟨q1, q⟩ | ⟨q1, q⟩ <;> (first | exact q | exact absurd p1 q1 | exact absurd q1 p1 | omega | exact absurd (p1.symm.trans q1) (by decide) | exact absurd (p2.symm.trans q2) (by decide))) hsv hr hl
  · rw [if_neg p1] at e
    exact yA_thr Y o V e 1 rfl (by decide) (fun g Yg => by
      rcases zn_keptLength (N := N) Yg ok x hx with ⟨q1, q⟩ | ⟨q1, q⟩ <;> (first | exact q | exact absurd p1 q1 | exact absurd q1 p1 | omega | exact absurd (p1.symm.trans q1) (by decide) | exact absurd (p2.symm.trans q2) (by decide))) hsv hr hl
theorem yA_keptLetter (J : yA h c) (hN : 1000001 ≤ N) (x : Int) (hx : -2147483648 ≤ x ∧ x < 2147483648) (y : Int) (hy : -2147483648 ≤ y ∧ y < 2147483648) : yA_T (fL_keptLetter N 0 (Int32.ofInt x) (Int32.ofInt y) 243 h) (fM_keptLetter N 232 (Int32.ofInt x) (Int32.ofInt y)) := by
  obtain ⟨now, hist, snap, sv, inp, rep, rep', V, Y, hsv, hr, hl, o⟩ := J
  have ok := (zv_open V).1
  have zo' := zv_o V
  obtain ⟨sL, sT, sS, sK, wd, nu, hs, C, l1, l2, l3, l4, n1, n2, n3, l5, l6⟩ := yA_q V
  have e := zq_keptLetter (N := N) C x y hx hy
  rw [l3] at e
  by_cases p1 : 0 ≤ x ∧ x < (now.2.2.length : Int)
  · rw [if_pos p1, l4 x.toNat (by omega)] at e
    exact yA_ret Y o V (zc_Fr h) e (fun g Yg => by
      rcases zn_keptLetter (N := N) Yg ok x y hx hy with ⟨q1, q⟩ | ⟨q1, q⟩ <;> (first | exact q | exact absurd p1 q1 | exact absurd q1 p1 | omega | exact absurd (p1.symm.trans q1) (by decide) | exact absurd (p2.symm.trans q2) (by decide))) hsv hr hl
  · rw [if_neg p1] at e
    exact yA_thr Y o V e 1 rfl (by decide) (fun g Yg => by
      rcases zn_keptLetter (N := N) Yg ok x y hx hy with ⟨q1, q⟩ | ⟨q1, q⟩ <;> (first | exact q | exact absurd p1 q1 | exact absurd q1 p1 | omega | exact absurd (p1.symm.trans q1) (by decide) | exact absurd (p2.symm.trans q2) (by decide))) hsv hr hl
theorem yA_compareParts (J : yA h c) (hN : 1000001 ≤ N) (x : Int) (hx : -2147483648 ≤ x ∧ x < 2147483648) (y : Int) (hy : -2147483648 ≤ y ∧ y < 2147483648) (z : Int) (hz : -2147483648 ≤ z ∧ z < 2147483648) (w : Int) (hw : -2147483648 ≤ w ∧ w < 2147483648) : yA_T (fL_compareParts N 0 (Int32.ofInt x) (Int32.ofInt y) (Int32.ofInt z) (Int32.ofInt w) 243 h) (fM_compareParts N 232 (Int32.ofInt x) (Int32.ofInt y) (Int32.ofInt z) (Int32.ofInt w)) := by
  obtain ⟨now, hist, snap, sv, inp, rep, rep', V, Y, hsv, hr, hl, o⟩ := J
  have ok := (zv_open V).1
  have zo' := zv_o V
  obtain ⟨sL, sT, sS, sK, wd, nu, hs, C, l1, l2, l3, l4, n1, n2, n3, l5, l6⟩ := yA_q V
  have e := zq_compareParts (N := N) C (by omega) x y z w hx hy hz hw
  rw [l2] at e
  cases p1 : zc_part now.2.1 x y && zc_part now.2.1 z w with
  | false =>
    rw [p1, cond_false] at e
    exact yA_thr Y o V e 1 rfl (by decide) (fun g Yg => by
      rcases zn_compareParts (N := N) Yg ok (by omega) x y z w hx hy hz hw with ⟨q1, q⟩ | ⟨q1, q⟩ <;> (first | exact q | exact absurd p1 q1 | exact absurd q1 p1 | omega | exact absurd (p1.symm.trans q1) (by decide) | exact absurd (p2.symm.trans q2) (by decide))) hsv hr hl
  | true =>
    rw [p1, cond_true] at e
    exact yA_ret Y o V (zc_Fr h) e (fun g Yg => by
      rcases zn_compareParts (N := N) Yg ok (by omega) x y z w hx hy hz hw with ⟨q1, q⟩ | ⟨q1, q⟩ <;> (first | exact q | exact absurd p1 q1 | exact absurd q1 p1 | omega | exact absurd (p1.symm.trans q1) (by decide) | exact absurd (p2.symm.trans q2) (by decide))) hsv hr hl
theorem yA_factorsIfAppended (J : yA h c) (hN : 1000001 ≤ N) (x : Int) (hx : -2147483648 ≤ x ∧ x < 2147483648) : yA_T (fL_factorsIfAppended N 0 (Int32.ofInt x) 243 h) (fM_factorsIfAppended N 232 (Int32.ofInt x)) := by
  obtain ⟨now, hist, snap, sv, inp, rep, rep', V, Y, hsv, hr, hl, o⟩ := J
  have ok := (zv_open V).1
  have zo' := zv_o V
  obtain ⟨sL, sT, sS, sK, wd, nu, hs, C, l1, l2, l3, l4, n1, n2, n3, l5, l6⟩ := yA_q V
  have e := zq_ifAppended (N := N) C (by omega) (by have := ok.1; omega) x hx
  simp only [l1, l2] at e
  rcases e with ⟨a1, a2, h1, e, C1, F1⟩ | ⟨p1, e⟩
  · have p1 : 97 ≤ x ∧ x < 97 + (now.1 : Int) := ⟨a1, a2⟩
    exact yA_ret Y o (l6 h1 _ C1) F1 e (fun g Yg => by
      rcases zn_factorsIfAppended (N := N) Yg ok (by omega) x hx with ⟨q1, q⟩ | ⟨q1, q⟩ <;> (first | exact q | exact absurd p1 q1 | exact absurd q1 p1 | omega | exact absurd (p1.symm.trans q1) (by decide) | exact absurd (p2.symm.trans q2) (by decide))) hsv hr hl
  · exact yA_thr Y o V e 1 rfl (by decide) (fun g Yg => by
      rcases zn_factorsIfAppended (N := N) Yg ok (by omega) x hx with ⟨q1, q⟩ | ⟨q1, q⟩ <;> (first | exact q | exact absurd p1 q1 | exact absurd q1 p1 | omega | exact absurd (p1.symm.trans q1) (by decide) | exact absurd (p2.symm.trans q2) (by decide))) hsv hr hl
theorem yA_factorsIfRotated (J : yA h c) (hN : 1000001 ≤ N) (x : Int) (hx : -2147483648 ≤ x ∧ x < 2147483648) : yA_T (fL_factorsIfRotated N 0 (Int32.ofInt x) 243 h) (fM_factorsIfRotated N 232 (Int32.ofInt x)) := by
  obtain ⟨now, hist, snap, sv, inp, rep, rep', V, Y, hsv, hr, hl, o⟩ := J
  have ok := (zv_open V).1
  have zo' := zv_o V
  obtain ⟨sL, sT, sS, sK, wd, nu, hs, C, l1, l2, l3, l4, n1, n2, n3, l5, l6⟩ := yA_q V
  have e := zq_ifRotated (N := N) C (by omega) x hx
  simp only [l2] at e
  rcases e with ⟨a1, a2, h1, e, C1, F1⟩ | ⟨p1, e⟩
  · have p1 : 0 ≤ x ∧ x ≤ (now.2.1.length : Int) := ⟨a1, a2⟩
    exact yA_ret Y o (l6 h1 _ C1) F1 e (fun g Yg => by
      rcases zn_factorsIfRotated (N := N) Yg ok (by omega) x hx with ⟨q1, q⟩ | ⟨q1, q⟩ <;> (first | exact q | exact absurd p1 q1 | exact absurd q1 p1 | omega | exact absurd (p1.symm.trans q1) (by decide) | exact absurd (p2.symm.trans q2) (by decide))) hsv hr hl
  · exact yA_thr Y o V e 1 rfl (by decide) (fun g Yg => by
      rcases zn_factorsIfRotated (N := N) Yg ok (by omega) x hx with ⟨q1, q⟩ | ⟨q1, q⟩ <;> (first | exact q | exact absurd p1 q1 | exact absurd q1 p1 | omega | exact absurd (p1.symm.trans q1) (by decide) | exact absurd (p2.symm.trans q2) (by decide))) hsv hr hl
theorem yA_lyndonWords (J : yA h c) (hN : 1000001 ≤ N) (x : Int) (hx : -2147483648 ≤ x ∧ x < 2147483648) : yA_L (fL_lyndonWords N 0 (Int32.ofInt x) 243 h) (fM_lyndonWords N 232 (Int32.ofInt x)) := by
  obtain ⟨now, hist, snap, sv, inp, rep, rep', V, Y, hsv, hr, hl, o⟩ := J
  have ok := (zv_open V).1
  have zo' := zv_o V
  rcases zk_lyndonWords (N := N) V (by omega) x hx with ⟨p1, e⟩ | ⟨p1, e⟩
  · exact yA_thrL Y o V e 1 rfl (by decide) (fun g Yg => by
      rcases zn_lyndonWords (N := N) Yg ok (by omega) x hx with ⟨q1, q⟩ | ⟨q1, q⟩ <;> (first | exact q | exact absurd p1 q1 | exact absurd q1 p1 | omega | exact absurd (p1.symm.trans q1) (by decide) | exact absurd (p2.symm.trans q2) (by decide))) hsv hr hl
  · exact yA_retL Y o V (zc_Fr h) e (fun g Yg => by
      rcases zn_lyndonWords (N := N) Yg ok (by omega) x hx with ⟨q1, q⟩ | ⟨q1, q⟩ <;> (first | exact q | exact absurd p1 q1 | exact absurd q1 p1 | omega | exact absurd (p1.symm.trans q1) (by decide) | exact absurd (p2.symm.trans q2) (by decide))) hsv hr hl
theorem yA_necklaces (J : yA h c) (hN : 1000001 ≤ N) (x : Int) (hx : -2147483648 ≤ x ∧ x < 2147483648) : yA_L (fL_necklaces N 0 (Int32.ofInt x) 243 h) (fM_necklaces N 232 (Int32.ofInt x)) := by
  obtain ⟨now, hist, snap, sv, inp, rep, rep', V, Y, hsv, hr, hl, o⟩ := J
  have ok := (zv_open V).1
  have zo' := zv_o V
  rcases zk_necklaces (N := N) V (by omega) x hx with ⟨p1, e⟩ | ⟨p1, e⟩
  · exact yA_thrL Y o V e 1 rfl (by decide) (fun g Yg => by
      rcases zn_necklaces (N := N) Yg ok (by omega) x hx with ⟨q1, q⟩ | ⟨q1, q⟩ <;> (first | exact q | exact absurd p1 q1 | exact absurd q1 p1 | omega | exact absurd (p1.symm.trans q1) (by decide) | exact absurd (p2.symm.trans q2) (by decide))) hsv hr hl
  · exact yA_retL Y o V (zc_Fr h) e (fun g Yg => by
      rcases zn_necklaces (N := N) Yg ok (by omega) x hx with ⟨q1, q⟩ | ⟨q1, q⟩ <;> (first | exact q | exact absurd p1 q1 | exact absurd q1 p1 | omega | exact absurd (p1.symm.trans q1) (by decide) | exact absurd (p2.symm.trans q2) (by decide))) hsv hr hl
theorem yA_loose {hs : List zX} {pc : Nat} {X : Option ((Int32 ⊕ Nat) × zH)} {Q : zH → Option (Int32 × zH)} {now snap : zA} {hist : List zA} {sv t : Int} {inp : List Nat} {rep rep' : zvP} {h h1 : zH} {r : Int32 ⊕ Nat} (Y : zy h now hist snap sv inp rep' t) (o : ∃ o, h[243]? = some (103, [o])) (V1 : zv h1 now hist snap sv inp rep) (F1 : zc_F h h1) (e : X = some (r, h1)) (hr' : ∀ k, r = .inr k → ∃ w, z_catch za_nc hs pc k = some w) (q : ∀ g, zy g now hist snap sv inp rep' t → ∃ z t' g', Q g = some (z, g') ∧ zy g' now hist snap sv inp rep' t' ∧ zr_F g g') (hsv : sv = 0 ∨ sv = 1) (hr : rep'.1 = rep.1) (hl : rep.1.length ≤ 240) : yA_U (bH hs pc X fun x1 h2 => b1 (fAS h2 243 103 (Int32.ofInt 0) (.long (x1).toInt64)) fun h3 => some ((Int32.ofInt 0), h3)) Q := by
  have o1 : ∃ o, h1[243]? = some (103, [o]) := by rw [F1.2 243 (by decide)]; exact o
  cases r with
  | inl y =>
    obtain ⟨g, e1, o2, f1⟩ := yA_set (v := .long y.toInt64) o1
    obtain ⟨z, t', g', e2, Y2, F2⟩ := q g (yA_zy Y (fun p hp hq => (f1 p hq).trans (F1.2 p hp)))
    refine ⟨Int32.ofInt 0, z, t', g, g', ?_, e2, yA_of (zv_frame V1 (fun p hp => f1 p (by omega))) F2 Y2 hsv hr hl ⟨_, o2⟩⟩
    rw [e]
    show b1 (fAS h1 243 103 (Int32.ofInt 0) (.long y.toInt64)) _ = _
    rw [e1, b1_s]
  | inr k =>
    obtain ⟨w, hw⟩ := hr' k rfl
    obtain ⟨z, t', g', e2, Y2, F2⟩ := q h1 (zy_frame Y F1)
    refine ⟨w.2.2, z, t', h1, g', ?_, e2, yA_of V1 F2 Y2 hsv hr hl o1⟩
    rw [e]
    show (match z_catch za_nc hs pc k with | some w => some (w.2.2, h1) | none => none) = _
    rw [hw]
theorem yA_rankOf (J : yA h c) (hN : 1000001 ≤ N) (x : Int) (hx : -2147483648 ≤ x ∧ x < 2147483648) : yA_U (fL_rankOf N 0 (Int32.ofInt x) 243 h) (fM_rankOf N 232 (Int32.ofInt x)) := by
  obtain ⟨now, hist, snap, sv, inp, rep, rep', V, Y, hsv, hr, hl, o⟩ := J
  have ok := (zv_open V).1
  have zo' := zv_o V
  rcases zk_rankOf (N := N) V hN x hx with ⟨p1, e⟩ | ⟨p1, y, h1, e, V1, F1⟩
  · exact yA_loose Y o V (zc_Fr h) e (fun k hk => by cases hk; exact ⟨_, rfl⟩) (fun g Yg => by
      obtain ⟨z, t', g', q1, q2, q3, _⟩ := zn_rankOf (N := N) Yg ok (by omega) x hx
      exact ⟨z, t', g', q1, q2, q3⟩) hsv hr hl
  · exact yA_loose Y o V1 F1 e (fun k hk => by cases hk) (fun g Yg => by
      obtain ⟨z, t', g', q1, q2, q3, _⟩ := zn_rankOf (N := N) Yg ok (by omega) x hx
      exact ⟨z, t', g', q1, q2, q3⟩) hsv hr hl
theorem yA_bruijnLetter (J : yA h c) (hN : 1000001 ≤ N) (x : Int) (hx : -2147483648 ≤ x ∧ x < 2147483648) (y : Int) (hy : -2147483648 ≤ y ∧ y < 2147483648) : yA_U (fL_bruijnLetter N 0 (Int32.ofInt x) (Int32.ofInt y) 243 h) (fM_bruijnLetter N 232 (Int32.ofInt x) (Int32.ofInt y)) := by
  obtain ⟨now, hist, snap, sv, inp, rep, rep', V, Y, hsv, hr, hl, o⟩ := J
  have ok := (zv_open V).1
  have zo' := zv_o V
  obtain ⟨r, h1, e, p1, V1, F1⟩ := zk_bruijnLetter (N := N) V hN x y hx hy
  exact yA_loose Y o V1 F1 e (fun k hk => by
    rcases p1 with p1 | p1 | ⟨z, p1⟩
    · rw [p1] at hk
      cases hk
      exact ⟨_, rfl⟩
    · rw [p1] at hk
      cases hk
      exact ⟨_, rfl⟩
    · rw [p1] at hk
      cases hk) (fun g Yg => zn_bruijnLetter (N := N) Yg ok (by omega) x y hx hy) hsv hr hl
end YAB
