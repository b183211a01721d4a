section
/-! THE CLASS'S OBJECTS, all together. -/
/-- where the states are -/
def zc_Q (q : Nat) : Prop := q = 1 ∨ (∃ k, k < 9 ∧ q = 23 + 20 * k) ∨ q = 206
theorem zc_Qd {p q : Nat} (h1 : zc_Q p) (h2 : zc_Q q) (h : p ≠ q) : p + 20 ≤ q ∨ q + 20 ≤ p := by
  rcases h1 with h1 | ⟨k, k1, h1⟩ | h1 <;> rcases h2 with h2 | ⟨j, j1, h2⟩ | h2 <;> omega
theorem zc_Qb {q : Nat} (h1 : zc_Q q) : (q = 1 ∨ (23 ≤ q ∧ q ≤ 183) ∨ q = 206) := by
  rcases h1 with h1 | ⟨k, k1, h1⟩ | h1 <;> omega
/-- where the words beside the states are, and their room -/
def zc_W (o n : Nat) : Prop := (o = 204 ∧ n = 600) ∨ (o = 228 ∧ n = 240) ∨ (o = 230 ∧ n = 121)
def zc_ha (hs : Nat → Nat) : List Value := [.ref (hs 0), .ref (hs 1), .ref (hs 2), .ref (hs 3), .ref (hs 4), .ref (hs 5), .ref (hs 6), .ref (hs 7)]
def zc_o0 (nu : Nat → Int) : List Value := [.ref 1, .ref 21, .ref 183, .int (Int32.ofInt (nu 0)), .ref 203, .ref 228, .ref 230]
def zc_o1 (nu : Nat → Int) : List Value := [.ref 22, .int (Int32.ofInt (nu 1))]
def zc_o2 (nu : Nat → Int) : List Value := [.ref 204, .ref 206, .int (Int32.ofInt (nu 2)), .int (Int32.ofInt (nu 3)), .int (Int32.ofInt (nu 4)), .int (Int32.ofInt (nu 5)), .int (Int32.ofInt (nu 6)), .int (Int32.ofInt (nu 7)), .int (Int32.ofInt (nu 8)), .int (Int32.ofInt (nu 9)), .ref 226, .ref 227]
/-- the class: its states by their places (letters, text, shelf, how many are kept), its words by their places, its numbers (0: a snapshot is saved, 1: how many states are remembered, 2 to 9: the script's fields, 10 and 11: bodies, 12 and 13: rounds), the remembered states' places -/
def zc (h : zH) (sL : Nat → Nat) (sT : Nat → List Nat) (sS : Nat → Nat → List Nat) (sK : Nat → Nat) (wd : Nat → List Nat) (nu : Nat → Int) (hs : Nat → Nat) : Prop :=
  h[0]? = some (0, zc_o0 nu) ∧ h[21]? = some (1, zc_o1 nu) ∧ h[22]? = some (105, zc_ha hs) ∧ h[203]? = some (2, zc_o2 nu) ∧ h[226]? = some (100, [.int (Int32.ofInt (nu 10)), .int (Int32.ofInt (nu 11))]) ∧ h[227]? = some (100, [.int (Int32.ofInt (nu 12)), .int (Int32.ofInt (nu 13))]) ∧ (∀ q, zc_Q q → zs_S h q (sL q) (sT q) (sS q) (sK q)) ∧ (∀ o n, zc_W o n → zw_W h o n (wd o)) ∧ (∀ i, i < 8 → ∃ k, k < 8 ∧ hs i = 23 + 20 * k) ∧ (∀ i j, i < 8 → j < 8 → i ≠ j → hs i ≠ hs j)
def zc_u {α : Type} (f : Nat → α) (q : Nat) (v : α) : Nat → α := fun p => if p = q then v else f p
theorem zc_us {α : Type} (f : Nat → α) (q : Nat) (v : α) : zc_u f q v q = v := if_pos rfl
theorem zc_un {α : Type} (f : Nat → α) {q p : Nat} (v : α) (h : p ≠ q) : zc_u f q v p = f p := if_neg h
/-- only the class's cells have changed -/
def zc_F (h h' : zH) : Prop := h'.length = h.length ∧ ∀ p, 232 ≤ p → h'[p]? = h[p]?
theorem zc_Fr (h : zH) : zc_F h h := ⟨rfl, fun _ _ => rfl⟩
theorem zc_Ft {h1 h2 h3 : zH} (a : zc_F h1 h2) (b : zc_F h2 h3) : zc_F h1 h3 := ⟨b.1.trans a.1, fun p h4 => (b.2 p h4).trans (a.2 p h4)⟩
section ZCC
variable {h h' : zH} {sL : Nat → Nat} {sT : Nat → List Nat} {sS : Nat → Nat → List Nat} {sK : Nat → Nat} {wd : Nat → List Nat} {nu : Nat → Int} {hs : Nat → Nat}
theorem zc_st (C : zc h sL sT sS sK wd nu hs) {q : Nat} (hq : zc_Q q) : zs_S h q (sL q) (sT q) (sS q) (sK q) := C.2.2.2.2.2.2.1 q hq
theorem zc_now (C : zc h sL sT sS sK wd nu hs) : zs_S h 1 (sL 1) (sT 1) (sS 1) (sK 1) := zc_st C (Or.inl rfl)
theorem zc_wd (C : zc h sL sT sS sK wd nu hs) {o n : Nat} (ho : zc_W o n) : zw_W h o n (wd o) := C.2.2.2.2.2.2.2.1 o n ho
/-- a state changed -/
theorem zc_state (C : zc h sL sT sS sK wd nu hs) {q L K : Nat} {T : List Nat} {S : Nat → List Nat} (hq : zc_Q q) (H : zs_S h' q L T S K) (f : zs_F h h' q) : zc h' (zc_u sL q L) (zc_u sT q T) (zc_u sS q S) (zc_u sK q K) wd nu hs ∧ zc_F h h' := by
  obtain ⟨c1, c2, c3, c4, c5, c6, c7, c8, c9⟩ := C
  have b := zc_Qb hq
  refine ⟨⟨(f.2 0 (by omega)).trans c1, (f.2 21 (by omega)).trans c2, (f.2 22 (by omega)).trans c3, (f.2 203 (by omega)).trans c4, (f.2 226 (by omega)).trans c5, (f.2 227 (by omega)).trans c6, ?_, ?_, c9⟩, f.1, fun p hp => f.2 p (by omega)⟩
  · intro p hp
    by_cases e : p = q
    · subst e
      rw [zc_us, zc_us, zc_us, zc_us]
      exact H
    · rw [zc_un _ _ e, zc_un _ _ e, zc_un _ _ e, zc_un _ _ e]
      exact zs_keep (c7 p hp) f (zc_Qd hp hq e)
  · intro o n ho
    refine zs_keepW (c8 o n ho) f ?_
    rcases ho with ⟨ho, _⟩ | ⟨ho, _⟩ | ⟨ho, _⟩ <;> omega
/-- a word beside the states changed -/
theorem zc_word (C : zc h sL sT sS sK wd nu hs) {o n : Nat} {l : List Nat} (ho : zc_W o n) (W : zw_W h' o n l) (f : zw_F h h' o) : zc h' sL sT sS sK (zc_u wd o l) nu hs ∧ zc_F h h' := by
  obtain ⟨c1, c2, c3, c4, c5, c6, c7, c8, c9⟩ := C
  have b : o = 204 ∨ o = 228 ∨ o = 230 := by rcases ho with ⟨ho, _⟩ | ⟨ho, _⟩ | ⟨ho, _⟩ <;> omega
  refine ⟨⟨(f.2 0 (by omega) (by omega)).trans c1, (f.2 21 (by omega) (by omega)).trans c2, (f.2 22 (by omega) (by omega)).trans c3, (f.2 203 (by omega) (by omega)).trans c4, (f.2 226 (by omega) (by omega)).trans c5, (f.2 227 (by omega) (by omega)).trans c6, ?_, ?_, c9⟩, f.1, fun p hp => f.2 p (by omega) (by omega)⟩
  · intro p hp
    have b2 := zc_Qb hp
    exact zs_keepo (c7 p hp) f (by omega)
  · intro o2 n2 ho2
    by_cases e : o2 = o
    · subst e
      rw [zc_us]
      have : n2 = n := by rcases ho with ⟨ho, x⟩ | ⟨ho, x⟩ | ⟨ho, x⟩ <;> rcases ho2 with ⟨ho2, y⟩ | ⟨ho2, y⟩ | ⟨ho2, y⟩ <;> omega
      rw [this]
      exact W
    · rw [zc_un _ _ e]
      refine zw_keep (c8 o2 n2 ho2) f ?_
      unfold zw_d
      rcases ho2 with ⟨ho2, y⟩ | ⟨ho2, y⟩ | ⟨ho2, y⟩ <;> omega
/-- one of the class's own small cells changed -/
theorem zc_cells (C : zc h sL sT sS sK wd nu hs) {p : Nat} {c : zC} (hp : p = 0 ∨ p = 21 ∨ p = 22 ∨ p = 203 ∨ p = 226 ∨ p = 227) : (∀ q, zc_Q q → zs_S (h.set p c) q (sL q) (sT q) (sS q) (sK q)) ∧ (∀ o n, zc_W o n → zw_W (h.set p c) o n (wd o)) ∧ zc_F h (h.set p c) := by
  obtain ⟨c1, c2, c3, c4, c5, c6, c7, c8, c9⟩ := C
  have f : ∀ r, r ≠ p → (h.set p c)[r]? = h[r]? := fun r hr => zh_set (fun e => hr e.symm)
  have kw : ∀ {o n : Nat} {l : List Nat}, zw_W h o n l → o ≠ p → o + 1 ≠ p → zw_W (h.set p c) o n l := by
    intro o n l W h1 h2
    obtain ⟨b1', b2', ⟨R, b3, b4, b5⟩, b6, b7⟩ := W
    exact ⟨b1', (f o h1).trans b2', ⟨R, (f (o + 1) h2).trans b3, b4, b5⟩, b6, b7⟩
  refine ⟨?_, ?_, by rw [List.length_set], fun r hr => f r (by omega)⟩
  · intro q hq
    have b := zc_Qb hq
    obtain ⟨a1, a2, a3, a4, a5, a6⟩ := c7 q hq
    exact ⟨a1, (f q (by omega)).trans a2, (f (q + 3) (by omega)).trans a3, kw a4 (by omega) (by omega), fun i hi => kw (a5 i hi) (by omega) (by omega), a6⟩
  · intro o n ho
    have b : o = 204 ∨ o = 228 ∨ o = 230 := by rcases ho with ⟨ho, _⟩ | ⟨ho, _⟩ | ⟨ho, _⟩ <;> omega
    exact kw (c8 o n ho) (by omega) (by omega)
/-- the script's numbers -/
theorem zc_sc (C : zc h sL sT sS sK wd nu hs) (k : Nat) (hk : 2 ≤ k ∧ k ≤ 9) : fI h 203 2 k = some (Int32.ofInt (nu k)) := by
  refine zh_I (by decide) C.2.2.2.1 ?_
  have : k = 2 ∨ k = 3 ∨ k = 4 ∨ k = 5 ∨ k = 6 ∨ k = 7 ∨ k = 8 ∨ k = 9 := by omega
  rcases this with e | e | e | e | e | e | e | e <;> subst e <;> rfl
theorem zc_scs (C : zc h sL sT sS sK wd nu hs) (k : Nat) (hk : 2 ≤ k ∧ k ≤ 9) (x : Int) : ∃ h', fS h 203 2 k (.int (Int32.ofInt x)) = some h' ∧ zc h' sL sT sS sK wd (zc_u nu k x) hs ∧ zc_F h h' := by
  obtain ⟨k7, k8, kF⟩ := zc_cells C (p := 203) (c := (2, zc_o2 (zc_u nu k x))) (by omega)
  obtain ⟨c1, c2, c3, c4, c5, c6, c7, c8, c9⟩ := C
  have e : (zc_o2 nu).set k (.int (Int32.ofInt x)) = zc_o2 (zc_u nu k x) := by
    have : k = 2 ∨ k = 3 ∨ k = 4 ∨ k = 5 ∨ k = 6 ∨ k = 7 ∨ k = 8 ∨ k = 9 := by omega
    rcases this with e | e | e | e | e | e | e | e <;> subst e <;> rfl
  refine ⟨h.set 203 (2, zc_o2 (zc_u nu k x)), ?_, ⟨(zh_set (by decide)).trans ?_, (zh_set (by decide)).trans ?_, (zh_set (by decide)).trans c3, List.getElem?_set_self (List.getElem?_eq_some_iff.mp c4).1, (zh_set (by decide)).trans ?_, (zh_set (by decide)).trans ?_, k7, k8, c9⟩, kF⟩
  · rw [zh_S c4 (show k < 12 by omega), e]
  · rw [c1]
    unfold zc_o0
    rw [zc_un _ _ (show (0 : Nat) ≠ k by omega)]
  · rw [c2]
    unfold zc_o1
    rw [zc_un _ _ (show (1 : Nat) ≠ k by omega)]
  · rw [c5, zc_un _ _ (show (10 : Nat) ≠ k by omega), zc_un _ _ (show (11 : Nat) ≠ k by omega)]
  · rw [c6, zc_un _ _ (show (12 : Nat) ≠ k by omega), zc_un _ _ (show (13 : Nat) ≠ k by omega)]
/-- a snapshot is saved -/
theorem zc_saved (C : zc h sL sT sS sK wd nu hs) (x : Int) : ∃ h', fS h 0 0 3 (.int (Int32.ofInt x)) = some h' ∧ zc h' sL sT sS sK wd (zc_u nu 0 x) hs ∧ zc_F h h' := by
  obtain ⟨k7, k8, kF⟩ := zc_cells C (p := 0) (c := (0, zc_o0 (zc_u nu 0 x))) (by omega)
  obtain ⟨c1, c2, c3, c4, c5, c6, c7, c8, c9⟩ := C
  refine ⟨h.set 0 (0, zc_o0 (zc_u nu 0 x)), ?_, ⟨List.getElem?_set_self (List.getElem?_eq_some_iff.mp c1).1, (zh_set (by decide)).trans c2, (zh_set (by decide)).trans c3, (zh_set (by decide)).trans c4, (zh_set (by decide)).trans c5, (zh_set (by decide)).trans c6, k7, k8, c9⟩, kF⟩
  rw [zh_S c1 (show 3 < 7 by decide)]
  rfl
/-- how many states are remembered -/
theorem zc_many (C : zc h sL sT sS sK wd nu hs) (x : Int) : ∃ h', fS h 21 1 1 (.int (Int32.ofInt x)) = some h' ∧ zc h' sL sT sS sK wd (zc_u nu 1 x) hs ∧ zc_F h h' := by
  obtain ⟨k7, k8, kF⟩ := zc_cells C (p := 21) (c := (1, zc_o1 (zc_u nu 1 x))) (by omega)
  obtain ⟨c1, c2, c3, c4, c5, c6, c7, c8, c9⟩ := C
  refine ⟨h.set 21 (1, zc_o1 (zc_u nu 1 x)), ?_, ⟨(zh_set (by decide)).trans c1, List.getElem?_set_self (List.getElem?_eq_some_iff.mp c2).1, (zh_set (by decide)).trans c3, (zh_set (by decide)).trans c4, (zh_set (by decide)).trans c5, (zh_set (by decide)).trans c6, k7, k8, c9⟩, kF⟩
  rw [zh_S c2 (show 1 < 2 by decide)]
  rfl
theorem zc_cnt (C : zc h sL sT sS sK wd nu hs) : fI h 21 1 1 = some (Int32.ofInt (nu 1)) := zh_I (b := 1) (by decide) C.2.1 rfl
theorem zc_T1 (C : zc h sL sT sS sK wd nu hs) : fT h 21 1 = true := zi_T (by decide) C.2.1
theorem zc_r1 (C : zc h sL sT sS sK wd nu hs) : fR h 21 1 0 = some 22 := zh_R (b := 0) (by decide) C.2.1 rfl
theorem zc_n1 (C : zc h sL sT sS sK wd nu hs) : fN h 22 105 = some (Int32.ofInt 8) := by
  rw [zi_N (by decide) C.2.2.1]
  rfl
theorem zc_hi (hs : Nat → Nat) (i : Nat) (hi : i < 8) : (zc_ha hs)[i]? = some (.ref (hs i)) := by
  have : i = 0 ∨ i = 1 ∨ i = 2 ∨ i = 3 ∨ i = 4 ∨ i = 5 ∨ i = 6 ∨ i = 7 := by omega
  rcases this with e | e | e | e | e | e | e | e <;> subst e <;> rfl
theorem zc_hset (hs : Nat → Nat) (i x : Nat) (hi : i < 8) : (zc_ha hs).set i (.ref x) = zc_ha (zc_u hs i x) := by
  have : i = 0 ∨ i = 1 ∨ i = 2 ∨ i = 3 ∨ i = 4 ∨ i = 5 ∨ i = 6 ∨ i = 7 := by omega
  rcases this with e | e | e | e | e | e | e | e <;> subst e <;> rfl
theorem zc_i1 (C : zc h sL sT sS sK wd nu hs) {i : Nat} (hi : i < 8) : fAR h 22 105 (Int32.ofInt (i : Int)) = some (hs i) := zh_AR (by decide) C.2.2.1 (zc_hi hs i hi) (by omega)
theorem zc_hq (C : zc h sL sT sS sK wd nu hs) {i : Nat} (hi : i < 8) : zc_Q (hs i) := by
  obtain ⟨k, k1, k2⟩ := C.2.2.2.2.2.2.2.2.1 i hi
  exact Or.inr (Or.inl ⟨k, by omega, k2⟩)
theorem zc_hx (C : zc h sL sT sS sK wd nu hs) {i : Nat} (hi : i < 8) : fX h (hs i) = true := by
  have H := zc_st C (zc_hq C hi)
  unfold fX
  rw [zh_hg (by have := H.1; omega) H.2.1]
  rfl
theorem zc_T0 (C : zc h sL sT sS sK wd nu hs) : fT h 0 0 = true := zi_T (by decide) C.1
theorem zc_r00 (C : zc h sL sT sS sK wd nu hs) : fR h 0 0 0 = some 1 := zh_R (b := 0) (by decide) C.1 rfl
theorem zc_r01 (C : zc h sL sT sS sK wd nu hs) : fR h 0 0 1 = some 21 := zh_R (b := 1) (by decide) C.1 rfl
theorem zc_r02 (C : zc h sL sT sS sK wd nu hs) : fR h 0 0 2 = some 183 := zh_R (b := 2) (by decide) C.1 rfl
theorem zc_i03 (C : zc h sL sT sS sK wd nu hs) : fI h 0 0 3 = some (Int32.ofInt (nu 0)) := zh_I (b := 3) (by decide) C.1 rfl
theorem zc_r04 (C : zc h sL sT sS sK wd nu hs) : fR h 0 0 4 = some 203 := zh_R (b := 4) (by decide) C.1 rfl
theorem zc_r05 (C : zc h sL sT sS sK wd nu hs) : fR h 0 0 5 = some 228 := zh_R (b := 5) (by decide) C.1 rfl
theorem zc_r06 (C : zc h sL sT sS sK wd nu hs) : fR h 0 0 6 = some 230 := zh_R (b := 6) (by decide) C.1 rfl
theorem zc_T2 (C : zc h sL sT sS sK wd nu hs) : fT h 203 2 = true := zi_T (by decide) C.2.2.2.1
theorem zc_r20 (C : zc h sL sT sS sK wd nu hs) : fR h 203 2 0 = some 204 := zh_R (b := 0) (by decide) C.2.2.2.1 rfl
theorem zc_r21 (C : zc h sL sT sS sK wd nu hs) : fR h 203 2 1 = some 206 := zh_R (b := 1) (by decide) C.2.2.2.1 rfl
end ZCC
end
section
/-! THE CLASS'S HISTORY. -/
/-- the oldest place behind the others -/
def zc_rot (hs : Nat → Nat) : Nat → Nat := fun i => if i = 7 then hs 0 else if i < 7 then hs (i + 1) else hs i
theorem zc_rotv (hs : Nat → Nat) (i : Nat) (hi : i < 8) : zc_rot hs i = hs (if i = 7 then 0 else i + 1) := by
  unfold zc_rot
  by_cases e : i = 7
  · rw [if_pos e, if_pos e]
  · rw [if_neg e, if_neg e, if_pos (by omega)]
section ZCH
variable {N : Nat} {sL : Nat → Nat} {sT : Nat → List Nat} {sS : Nat → Nat → List Nat} {sK : Nat → Nat} {wd : Nat → List Nat} {nu : Nat → Int} {hs : Nat → Nat}
theorem zc_hT {h : zH} {x : Nat} (H : ∃ L T S K, zs_S h x L T S K) : (fT h x (za_elem 105) && Nat.blt x 1000000) = true := by
  obtain ⟨L, T, S, K, H⟩ := H
  rw [show za_elem 105 = 3 from rfl, zs_T H, Bool.true_and]
  exact Nat.ble_eq.mpr (by have := H.1; omega)
/-- places moved one to the left; the state of the array while it goes on -/
theorem zc_forget18 {x : Nat} (hx : x = hs 0) : ∀ (c f i : Nat) (h : zH) (g : Nat → Nat), h[21]? = some (1, zc_o1 nu) → h[22]? = some (105, zc_ha g) → (∀ q, zc_Q q → ∃ L T S K, zs_S h q L T S K) → (∀ j, j < 8 → zc_Q (hs j)) → 1 ≤ i → i + c = 8 → c < f → (∀ j, j < 8 → g j = if j + 1 < i then hs (j + 1) else hs j) → fH_forgetOldest_18 N f 21 x (Int32.ofInt (i : Int)) h = some ((), ((h.set 22 (105, zc_ha (zc_rot hs))).set 21 (1, zc_o1 (zc_u nu 1 7)))) := by
  intro c
  induction c with
  | zero =>
    intro f i h g e1 e2 e3 e4 h1 h2 h3 h4
    obtain ⟨y, rfl⟩ : ∃ y, f = y + 1 := ⟨f - 1, by omega⟩
    have n1 : fN h 22 105 = some (Int32.ofInt 8) := by
      rw [zi_N (by decide) e2]
      rfl
    have r1 : fR h 21 1 0 = some 22 := zh_R (b := 0) (by decide) e1 rfl
    have eg : (zc_ha g).set 7 (.ref x) = zc_ha (zc_rot hs) := by
      rw [hx]
      unfold zc_ha zc_rot
      have a0 := h4 0 (by omega)
      have a1 := h4 1 (by omega)
      have a2 := h4 2 (by omega)
      have a3 := h4 3 (by omega)
      have a4 := h4 4 (by omega)
      have a5 := h4 5 (by omega)
      have a6 := h4 6 (by omega)
      rw [if_pos (by omega)] at a0 a1 a2 a3 a4 a5 a6
      rw [a0, a1, a2, a3, a4, a5, a6]
      rfl
    rw [fH_forgetOldest_18, r1, b1_s, n1, b1_s, zqo_ge _ _ (by omega) (by decide), decide_eq_true (by omega), cond_true, b1_s, b1_s, n1, b1_s, zc_hT (e3 x (by rw [hx]; exact e4 0 (by omega))), cond_true, zw_sub, show (8 : Int) - 1 = ((7 : Nat) : Int) by decide, zh_AS e2 (show 7 < 8 by decide) (by decide), b1_s, eg]
    have q1 : (h.set 22 (105, zc_ha (zc_rot hs)))[21]? = some (1, zc_o1 nu) := (zh_set (by decide)).trans e1
    have q2 : (h.set 22 (105, zc_ha (zc_rot hs)))[22]? = some (105, zc_ha (zc_rot hs)) := List.getElem?_set_self (List.getElem?_eq_some_iff.mp e2).1
    have n2 : fN (h.set 22 (105, zc_ha (zc_rot hs))) 22 105 = some (Int32.ofInt 8) := by
      rw [zi_N (by decide) q2]
      rfl
    rw [zh_R (b := 0) (by decide) q1 rfl, b1_s, n2, b1_s, zw_sub, zh_S q1 (show 1 < 2 by decide), b1_s]
    rfl
  | succ c ih =>
    intro f i h g e1 e2 e3 e4 h1 h2 h3 h4
    obtain ⟨y, rfl⟩ : ∃ y, f = y + 1 := ⟨f - 1, by omega⟩
    have n1 : fN h 22 105 = some (Int32.ofInt 8) := by
      rw [zi_N (by decide) e2]
      rfl
    have r1 : fR h 21 1 0 = some 22 := zh_R (b := 0) (by decide) e1 rfl
    have gi : g i = hs i := by rw [h4 i (by omega), if_neg (by omega)]
    have a1 : fAR h 22 105 (Int32.ofInt (i : Int)) = some (hs i) := by
      rw [← gi]
      exact zh_AR (by decide) e2 (zc_hi g i (by omega)) (by omega)
    rw [fH_forgetOldest_18, r1, b1_s, n1, b1_s, zqo_ge _ _ (by omega) (by decide), decide_eq_false (by omega), cond_false, b1_s, b1_s, a1, b1_s, zc_hT (e3 _ (e4 i (by omega))), cond_true, zw_sub, show (i : Int) - 1 = ((i - 1 : Nat) : Int) by omega, zh_AS e2 (show i - 1 < 8 by omega) (by omega), b1_s, zh_inc, zc_hset g (i - 1) (hs i) (by omega)]
    have q1 : (h.set 22 (105, zc_ha (zc_u g (i - 1) (hs i))))[21]? = some (1, zc_o1 nu) := (zh_set (by decide)).trans e1
    have q2 : (h.set 22 (105, zc_ha (zc_u g (i - 1) (hs i))))[22]? = some (105, zc_ha (zc_u g (i - 1) (hs i))) := List.getElem?_set_self (List.getElem?_eq_some_iff.mp e2).1
    have e5 := ih y (i + 1) _ _ q1 q2 (by
      intro q hq
      obtain ⟨L, T, S, K, H⟩ := e3 q hq
      have b := zc_Qb hq
      refine ⟨L, T, S, K, ?_⟩
      obtain ⟨a1, a2, a3, a4, a5, a6⟩ := H
      have f : ∀ r, r ≠ 22 → (h.set 22 (105, zc_ha (zc_u g (i - 1) (hs i))))[r]? = h[r]? := fun r hr => zh_set (fun e => hr e.symm)
      have kw : ∀ {o n : Nat} {l : List Nat}, zw_W h o n l → o ≠ 22 → o + 1 ≠ 22 → zw_W (h.set 22 (105, zc_ha (zc_u g (i - 1) (hs i)))) o n l := by
        intro o n l W h1 h2
        obtain ⟨b1', b2', ⟨R, b3, b4, b5⟩, b6, b7⟩ := W
        exact ⟨b1', (f o h1).trans b2', ⟨R, (f (o + 1) h2).trans b3, b4, b5⟩, b6, b7⟩
      exact ⟨a1, (f q (by omega)).trans a2, (f (q + 3) (by omega)).trans a3, kw a4 (by omega) (by omega), fun j hj => kw (a5 j hj) (by omega) (by omega), a6⟩) e4 (by omega) (by omega) (by omega) (by
      intro j hj
      by_cases e : j = i - 1
      · subst e
        rw [zc_us, if_pos (by omega), show i - 1 + 1 = i by omega]
      · rw [zc_un _ _ e, h4 j hj]
        by_cases e2 : j + 1 < i
        · rw [if_pos e2, if_pos (by omega)]
        · rw [if_neg e2, if_neg (by omega)])
    rw [e5, List.set_set]
theorem zc_forget {h : zH} (C : zc h sL sT sS sK wd nu hs) (hN : 1000 ≤ N) : ∃ h', fH_forgetOldest N 21 h = some ((), h') ∧ zc h' sL sT sS sK wd (zc_u nu 1 7) (zc_rot hs) ∧ zc_F h h' := by
  have hq : ∀ j, j < 8 → zc_Q (hs j) := fun j hj => zc_hq C hj
  have e := zc_forget18 (N := N) (x := hs 0) rfl 7 N 1 h hs C.2.1 C.2.2.1 (fun q hq => ⟨_, _, _, _, zc_st C hq⟩) hq (by omega) (by omega) (by omega) (fun j hj => by rw [if_neg (by omega)])
  obtain ⟨k7, k8, kF⟩ := zc_cells C (p := 22) (c := (105, zc_ha (zc_rot hs))) (by omega)
  obtain ⟨c1, c2, c3, c4, c5, c6, c7, c8, c9, c10⟩ := C
  have C2 : zc (h.set 22 (105, zc_ha (zc_rot hs))) sL sT sS sK wd nu (zc_rot hs) := by
    refine ⟨(zh_set (by decide)).trans c1, (zh_set (by decide)).trans c2, List.getElem?_set_self (List.getElem?_eq_some_iff.mp c3).1, (zh_set (by decide)).trans c4, (zh_set (by decide)).trans c5, (zh_set (by decide)).trans c6, k7, k8, ?_, ?_⟩
    · intro i hi
      unfold zc_rot
      split
      · exact c9 0 (by omega)
      · split
        · exact c9 (i + 1) (by omega)
        · exact c9 i hi
    · intro i j hi hj hij
      rw [zc_rotv hs i hi, zc_rotv hs j hj]
      by_cases e1 : i = 7
      · rw [if_pos e1, if_neg (by omega)]
        exact c10 _ _ (by omega) (by omega) (by omega)
      · rw [if_neg e1]
        by_cases e2 : j = 7
        · rw [if_pos e2]
          exact c10 _ _ (by omega) (by omega) (by omega)
        · rw [if_neg e2]
          exact c10 _ _ (by omega) (by omega) (by omega)
  obtain ⟨h3, e3, C3, F3⟩ := zc_many C2 7
  refine ⟨h3, ?_, C3, zc_Ft kF F3⟩
  unfold fH_forgetOldest
  rw [zi_T (by decide) c2, cond_true, zh_R (b := 0) (by decide) c2 rfl, b1_s, show fN h 22 105 = some (Int32.ofInt 8) by rw [zi_N (by decide) c3]; rfl, b1_s, show z_cmp .ne (Int32.ofInt 8) (Int32.ofInt 0) = true from rfl, cond_true, b1_s, show Int32.ofInt 0 = Int32.ofInt ((0 : Nat) : Int) from rfl, zh_AR (by decide) c3 (zc_hi hs 0 (by omega)) (by decide), b1_s]
  refine e.trans ?_
  have q1 : (h.set 22 (105, zc_ha (zc_rot hs)))[21]? = some (1, zc_o1 nu) := (zh_set (by decide)).trans c2
  rw [zh_S q1 (show 1 < 2 by decide)] at e3
  cases e3
  rfl
/-- a copy of one state in another's place -/
theorem zc_copy {h : zH} (C : zc h sL sT sS sK wd nu hs) (hN : 1000 ≤ N) {q p : Nat} (hq : zc_Q q) (hp : zc_Q p) (d : q ≠ p) : ∃ h' S', fS_copyFrom N q p h = some ((), h') ∧ zc h' (zc_u sL q (sL p)) (zc_u sT q (sT p)) (zc_u sS q S') (zc_u sK q (sK p)) wd nu hs ∧ (∀ j, j < sK p → S' j = sS p j) ∧ zc_F h h' := by
  obtain ⟨h1, S1, e1, H1, r1, F1⟩ := zs_copy (N := N) hN (zc_Qd hq hp d) (zc_st C hq) (zc_st C hp)
  obtain ⟨C2, F2⟩ := zc_state C hq H1 F1
  exact ⟨h1, S1, e1, C2, r1, F2⟩
/-- where the state goes that is remembered next -/
def zc_slot (nu : Nat → Int) (hs : Nat → Nat) : Nat := if nu 1 = 8 then hs 0 else hs (nu 1).toNat
theorem zc_rem16 {h : zH} (C : zc h sL sT sS sK wd nu hs) (hN : 1000 ≤ N) {n : Nat} (hn : nu 1 = (n : Int)) (h8 : n < 8) : ∃ h' S', fH_remember_16 N 21 1 h = some ((), h') ∧ zc h' (zc_u sL (hs n) (sL 1)) (zc_u sT (hs n) (sT 1)) (zc_u sS (hs n) S') (zc_u sK (hs n) (sK 1)) wd (zc_u nu 1 ((n : Int) + 1)) hs ∧ (∀ j, j < sK 1 → S' j = sS 1 j) ∧ zc_F h h' := by
  have hq := zc_hq C h8
  obtain ⟨h1, S1, e1, C1, r1, F1⟩ := zc_copy (N := N) C hN hq (Or.inl rfl) (by
    obtain ⟨k, k1, k2⟩ := C.2.2.2.2.2.2.2.2.1 n h8
    omega)
  obtain ⟨h2, e2, C2, F2⟩ := zc_many C1 ((n : Int) + 1)
  refine ⟨h2, S1, ?_, C2, r1, zc_Ft F1 F2⟩
  unfold fH_remember_16
  rw [zc_cnt C, b1_s, hn, zqo_lt _ _ (by omega) (by decide), decide_eq_false (by omega), cond_false, b1_s, zc_r1 C, b1_s, zc_n1 C, b1_s, zqo_ge _ _ (by omega) (by decide), decide_eq_false (by omega), cond_false, b1_s, b1_s, zc_i1 C h8, b1_s, zc_hx C h8, cond_true, b1_s, b1_s, zc_i1 C h8, b1_s, e1, b2, zc_cnt C1, b1_s, hn, zw_add, e2, b1_s]
/-- the state is remembered -/
theorem zc_remember {h : zH} (C : zc h sL sT sS sK wd nu hs) (hN : 1000 ≤ N) {n : Nat} (hn : nu 1 = (n : Int)) (h8 : n ≤ 8) : ∃ h' S' hs', fH_remember N 21 1 h = some ((), h') ∧ hs' = (if n = 8 then zc_rot hs else hs) ∧ zc h' (zc_u sL (hs' (min n 7)) (sL 1)) (zc_u sT (hs' (min n 7)) (sT 1)) (zc_u sS (hs' (min n 7)) S') (zc_u sK (hs' (min n 7)) (sK 1)) wd (zc_u nu 1 ((min n 7 : Nat) + 1)) hs' ∧ (∀ j, j < sK 1 → S' j = sS 1 j) ∧ zc_F h h' := by
  unfold fH_remember
  rw [zc_T1 C, cond_true, zc_cnt C, b1_s, zc_r1 C, b1_s, zc_n1 C, b1_s, hn, zqo_lt _ _ (by omega) (by decide)]
  by_cases e : n = 8
  · obtain ⟨h1, e1, C1, F1⟩ := zc_forget (N := N) C hN
    obtain ⟨h2, S2, e2, C2, r2, F2⟩ := zc_rem16 (N := N) C1 hN (n := 7) (zc_us _ _ _) (by omega)
    rw [decide_eq_false (by omega), cond_false, e1, b2]
    refine ⟨h2, S2, zc_rot hs, e2, by rw [if_pos e], ?_, r2, zc_Ft F1 F2⟩
    have eu : zc_u (zc_u nu 1 7) 1 (((7 : Nat) : Int) + 1) = zc_u nu 1 ((min n 7 : Nat) + 1) := by
      funext k
      unfold zc_u
      by_cases e3 : k = 1
      · rw [if_pos e3, if_pos e3, show min n 7 = 7 by omega]
      · rw [if_neg e3, if_neg e3, if_neg e3]
    rw [eu] at C2
    rw [show min n 7 = 7 by omega] at C2 ⊢
    exact C2
  · obtain ⟨h2, S2, e2, C2, r2, F2⟩ := zc_rem16 (N := N) C hN hn (by omega)
    rw [decide_eq_true (by omega), cond_true]
    refine ⟨h2, S2, hs, e2, by rw [if_neg e], ?_, r2, F2⟩
    rw [show min n 7 = n by omega]
    exact C2
/-- the latest remembered state brought back -/
theorem zc_back {h : zH} (C : zc h sL sT sS sK wd nu hs) (hN : 1000 ≤ N) {n : Nat} (hn : nu 1 = (n : Int)) (h8 : n ≤ 8) : (n = 0 ∧ fH_bringBack N 21 1 h = some (Int32.ofInt 0, h)) ∨ (1 ≤ n ∧ ∃ h' S', fH_bringBack N 21 1 h = some (Int32.ofInt 1, h') ∧ zc h' (zc_u sL 1 (sL (hs (n - 1)))) (zc_u sT 1 (sT (hs (n - 1)))) (zc_u sS 1 S') (zc_u sK 1 (sK (hs (n - 1)))) wd (zc_u nu 1 ((n - 1 : Nat) : Int)) hs ∧ (∀ j, j < sK (hs (n - 1)) → S' j = sS (hs (n - 1)) j) ∧ zc_F h h') := by
  unfold fH_bringBack
  rw [zc_T1 C, cond_true, zc_cnt C, b1_s, hn, zqo_lt _ _ (by omega) (by decide)]
  by_cases e : n = 0
  · refine Or.inl ⟨e, ?_⟩
    rw [decide_eq_true (by omega), cond_true]
    rfl
  · refine Or.inr ⟨by omega, ?_⟩
    obtain ⟨h1, e1, C1, F1⟩ := zc_many C ((n - 1 : Nat) : Int)
    have hq := zc_hq C1 (show n - 1 < 8 by omega)
    obtain ⟨h2, S2, e2, C2, r2, F2⟩ := zc_copy (N := N) C1 hN (Or.inl rfl) hq (by
      obtain ⟨k, k1, k2⟩ := C.2.2.2.2.2.2.2.2.1 (n - 1) (by omega)
      omega)
    refine ⟨h2, S2, ?_, C2, r2, zc_Ft F1 F2⟩
    rw [decide_eq_false (by omega), cond_false, b1_s, zc_r1 C, b1_s, zc_n1 C, b1_s, zqo_gt _ _ (by omega) (by decide), decide_eq_false (by omega), cond_false, b1_s, b1_s, zw_sub, show (n : Int) - 1 = ((n - 1 : Nat) : Int) by omega, zc_i1 C (by omega), b1_s, zc_hx C (by omega), cond_true, b1_s, zw_sub, show (n : Int) - 1 = ((n - 1 : Nat) : Int) by omega, e1, b1_s, zc_r1 C1, b1_s, zc_cnt C1, b1_s, zc_us, zc_i1 C1 (by omega), b1_s, e2, b2]
end ZCH
end
section
/-! THE CLASS'S QUESTIONS. -/
/-- what isShelfFalling finds; c are left -/
def zc_fall (S : Nat → List Nat) (K : Nat) : Nat → Bool
  | 0 => true
  | c + 1 => if zw_cmp (S (K - (c + 1))) (S (K - (c + 1) - 1)) = 1 then false else zc_fall S K c
/-- why the text isn't a Lyndon word -/
def zc_why (T : List Nat) : Int := if T.length = 0 then 1 else if zw_tu T < T.length then 2 else if zw_lT T = 0 then 0 else 3
section ZCQ
variable {N : Nat} {h : zH} {sL : Nat → Nat} {sT : Nat → List Nat} {sS : Nat → Nat → List Nat} {sK : Nat → Nat} {wd : Nat → List Nat} {nu : Nat → Int} {hs : Nat → Nat}
theorem zc_txt (C : zc h sL sT sS sK wd nu hs) : zw_W h (1 + 1) 120 (sT 1) := (zc_now C).2.2.2.1
theorem zq_letters (C : zc h sL sT sS sK wd nu hs) : fB_letters N 0 h = some (Int32.ofInt (sL 1 : Int), h) := by
  unfold fB_letters
  rw [zc_T0 C, cond_true, zc_r00 C, b1_s, zs_L (zc_now C), b1_s]
theorem zq_length (C : zc h sL sT sS sK wd nu hs) : fB_length N 0 h = some (Int32.ofInt ((sT 1).length : Int), h) := by
  unfold fB_length
  rw [zc_T0 C, cond_true, zc_r00 C, b1_s, zs_t (zc_now C), b1_s, zw_z (zc_txt C), b1_s]
theorem zq_letterAt (C : zc h sL sT sS sK wd nu hs) (x : Int) (hx : -2147483648 ≤ x ∧ x < 2147483648) : fB_letterAt N 0 (Int32.ofInt x) h = some (Int32.ofInt (zw_g (sT 1) x), h) := by
  unfold fB_letterAt
  rw [zc_T0 C, cond_true, zc_r00 C, b1_s, zs_t (zc_now C), b1_s, zw_at (zc_txt C) x hx, b2]
theorem zq_factorCount (C : zc h sL sT sS sK wd nu hs) (hN : 3000 ≤ N) : fB_factorCount N 0 h = some (Int32.ofInt (((zw_fs (sT 1)).length : Nat) : Int), h) := by
  unfold fB_factorCount
  rw [zc_T0 C, cond_true, zc_r00 C, b1_s, zs_t (zc_now C), b1_s, zw_count (zc_txt C) (by omega), b2]
theorem zq_longestFactor (C : zc h sL sT sS sK wd nu hs) (hN : 3000 ≤ N) : fB_longestFactor N 0 h = some (Int32.ofInt (zw_long (zw_fs (sT 1)) 0 (-1) 0), h) := by
  unfold fB_longestFactor
  rw [zc_T0 C, cond_true, zc_r00 C, b1_s, zs_t (zc_now C), b1_s, zw_longest (zc_txt C) (by omega), b2]
theorem zq_factorOf (C : zc h sL sT sS sK wd nu hs) (hN : 3000 ≤ N) (x : Int) (hx : -2147483648 ≤ x ∧ x < 2147483648) : fB_factorOf N 0 (Int32.ofInt x) h = some (Int32.ofInt (zw_wF (sT 1) x), h) := by
  unfold fB_factorOf
  rw [zc_T0 C, cond_true, zc_r00 C, b1_s, zs_t (zc_now C), b1_s, zw_with (zc_txt C) (by omega) x hx, b2]
theorem zq_isLyndon (C : zc h sL sT sS sK wd nu hs) (hN : 3000 ≤ N) : fB_isLyndon N 0 h = some (cond (decide (0 < (sT 1).length ∧ zw_lE (sT 1) 0 = (sT 1).length)) (Int32.ofInt 1) (Int32.ofInt 0), h) := by
  unfold fB_isLyndon
  rw [zc_T0 C, cond_true, zc_r00 C, b1_s, zs_t (zc_now C), b1_s, zw_one (zc_txt C) (by omega), b2]
  cases decide (0 < (sT 1).length ∧ zw_lE (sT 1) 0 = (sT 1).length) <;> rfl
theorem zq_isPrenecklace (C : zc h sL sT sS sK wd nu hs) (hN : 3000 ≤ N) : fB_isPrenecklace N 0 h = some (cond (zw_bn (sT 1)) (Int32.ofInt 1) (Int32.ofInt 0), h) := by
  unfold fB_isPrenecklace
  rw [zc_T0 C, cond_true, zc_r00 C, b1_s, zs_t (zc_now C), b1_s, zw_neck (zc_txt C) (by omega), b2]
  cases zw_bn (sT 1) <;> rfl
theorem zq_leastRotation (C : zc h sL sT sS sK wd nu hs) (hN : 3000 ≤ N) : fB_leastRotation N 0 h = some (Int32.ofInt ((zw_lT (sT 1) : Nat) : Int), h) := by
  unfold fB_leastRotation
  rw [zc_T0 C, cond_true, zc_r00 C, b1_s, zs_t (zc_now C), b1_s, zw_lturn (zc_txt C) hN, b2]
theorem zq_rotationCount (C : zc h sL sT sS sK wd nu hs) (hN : 3000 ≤ N) : fB_rotationCount N 0 h = some (Int32.ofInt ((zw_tu (sT 1) : Nat) : Int), h) := by
  unfold fB_rotationCount
  rw [zc_T0 C, cond_true, zc_r00 C, b1_s, zs_t (zc_now C), b1_s, zw_turns (zc_txt C) (by omega), b2]
theorem zq_smallestPeriod (C : zc h sL sT sS sK wd nu hs) (hN : 3000 ≤ N) : fB_smallestPeriod N 0 h = some (Int32.ofInt ((zw_per (sT 1) : Nat) : Int), h) := by
  unfold fB_smallestPeriod
  rw [zc_T0 C, cond_true, zc_r00 C, b1_s, zs_t (zc_now C), b1_s, zw_least (zc_txt C) (by omega), b2]
theorem zq_longestBorder (C : zc h sL sT sS sK wd nu hs) (hN : 3000 ≤ N) : fB_longestBorder N 0 h = some (Int32.ofInt (((sT 1).length : Int) - (zw_per (sT 1) : Int)), h) := by
  unfold fB_longestBorder
  rw [zc_T0 C, cond_true, zc_r00 C, b1_s, zs_t (zc_now C), b1_s, zw_z (zc_txt C), b1_s, b1_s, zs_t (zc_now C), b1_s, zw_least (zc_txt C) (by omega), b2, zw_sub]
theorem zq_leastSuffix (C : zc h sL sT sS sK wd nu hs) (hN : 3000 ≤ N) : fB_leastSuffix N 0 h = some (Int32.ofInt (zw_ext (sT 1) (-1)), h) := by
  unfold fB_leastSuffix
  rw [zc_T0 C, cond_true, zc_r00 C, b1_s, zs_t (zc_now C), b1_s, zw_extr (zc_txt C) (by omega) (Or.inl rfl), b2]
theorem zq_greatestSuffix (C : zc h sL sT sS sK wd nu hs) (hN : 3000 ≤ N) : fB_greatestSuffix N 0 h = some (Int32.ofInt (zw_ext (sT 1) 1), h) := by
  unfold fB_greatestSuffix
  rw [zc_T0 C, cond_true, zc_r00 C, b1_s, zs_t (zc_now C), b1_s, zw_extr (zc_txt C) (by omega) (Or.inr rfl), b2]
theorem zq_whyNotLyndon (C : zc h sL sT sS sK wd nu hs) (hN : 3000 ≤ N) : fB_whyNotLyndon N 0 h = some (Int32.ofInt (zc_why (sT 1)), h) := by
  have W := zc_txt C
  have tl := W.2.2.2.1
  have tu : zw_tu (sT 1) ≤ (sT 1).length := by
    unfold zw_tu
    split
    · exact (zw_perb (sT 1)).1
    · exact Nat.le_refl _
  unfold fB_whyNotLyndon zc_why
  rw [zc_T0 C, cond_true, zc_r00 C, b1_s, zs_t (zc_now C), b1_s, zw_z W, b1_s, zqo_ne _ _ (by omega) (by decide)]
  by_cases e0 : (sT 1).length = 0
  · rw [decide_eq_true (by omega), Bool.not_true, cond_false, if_pos e0]
  · rw [decide_eq_false (by omega), Bool.not_false, cond_true, if_neg e0, b1_s, zs_t (zc_now C), b1_s, zw_turns W (by omega), b2, zc_r00 C, b1_s, zs_t (zc_now C), b1_s, zw_z W, b1_s, zqo_ge _ _ (by omega) (by omega)]
    by_cases e1 : zw_tu (sT 1) < (sT 1).length
    · rw [decide_eq_false (by omega), cond_false, if_pos e1]
    · have hlt : zw_lT (sT 1) < 1000 := by
        rw [zm_lT (by omega)]
        have := (zm_leastM (l := sT 1) (by omega)).1
        omega
      rw [decide_eq_true (by omega), cond_true, if_neg e1, b1_s, zs_t (zc_now C), b1_s, zw_lturn W hN, b2, zqo_ne _ _ (by omega) (by decide)]
      by_cases e2 : zw_lT (sT 1) = 0
      · rw [decide_eq_true (by omega), Bool.not_true, cond_false, if_pos e2]
        rfl
      · rw [decide_eq_false (by omega), Bool.not_false, cond_true, if_neg e2]
        rfl
theorem zq_isNecklace (C : zc h sL sT sS sK wd nu hs) (hN : 3000 ≤ N) : fB_isNecklace N 0 h = some (cond (decide (0 < (sT 1).length ∧ zw_lT (sT 1) = 0)) (Int32.ofInt 1) (Int32.ofInt 0), h) := by
  have W := zc_txt C
  have tl := W.2.2.2.1
  unfold fB_isNecklace
  rw [zc_T0 C, cond_true, zc_r00 C, b1_s, zs_t (zc_now C), b1_s, zw_z W, b1_s, zqo_le _ _ (by omega) (by decide)]
  by_cases e0 : 0 < (sT 1).length
  · have hlt : zw_lT (sT 1) < 1000 := by
      rw [zm_lT (by omega)]
      have := (zm_leastM (l := sT 1) (by omega)).1
      omega
    rw [decide_eq_false (by omega), cond_false, b1_s, zs_t (zc_now C), b1_s, zw_lturn W hN, b2, zqo_ne _ _ (by omega) (by decide)]
    by_cases e2 : zw_lT (sT 1) = 0
    · rw [decide_eq_true (by omega), Bool.not_true, cond_false, decide_eq_true ⟨e0, e2⟩]
      rfl
    · rw [decide_eq_false (by omega), Bool.not_false, cond_true, decide_eq_false (fun x => e2 x.2)]
      rfl
  · rw [decide_eq_true (by omega), cond_true, decide_eq_false (fun x => e0 x.1)]
    rfl
theorem zq_keepingLetter (C : zc h sL sT sS sK wd nu hs) (hN : 3000 ≤ N) : fB_keepingLetter N 0 h = some (Int32.ofInt (if zw_bn (sT 1) = true then zw_g (sT 1) (((sT 1).length : Int) - (zw_lE (sT 1) 0 : Int)) else -1), h) := by
  have W := zc_txt C
  have tl := W.2.2.2.1
  unfold fB_keepingLetter
  rw [zc_T0 C, cond_true, zc_r00 C, b1_s, zs_t (zc_now C), b1_s, zw_neck W (by omega), b2]
  cases e : zw_bn (sT 1) with
  | false =>
    rw [cond_false, show z_cmp .ne (Int32.ofInt 0) (Int32.ofInt 0) = false from rfl, cond_false, if_neg (by decide)]
  | true =>
    have h0 : 0 < (sT 1).length := by
      unfold zw_bn at e
      rw [Bool.and_eq_true] at e
      exact of_decide_eq_true e.1
    have hb := zw_lEb h0
    have hl := zw_lyn (N := N) W (by omega) h0
    rw [cond_true, show z_cmp .ne (Int32.ofInt 1) (Int32.ofInt 0) = true from rfl, cond_true, zc_r00 C, b1_s, zs_t (zc_now C), b1_s, b1_s, zs_t (zc_now C), b1_s, zw_z W, b1_s, b1_s, zs_t (zc_now C), b1_s, show (Int32.ofInt 0) = Int32.ofInt ((0 : Nat) : Int) from rfl, hl, b2, zw_sub, zw_at W _ (by omega), b2, if_pos rfl]
theorem zq_undoCount (C : zc h sL sT sS sK wd nu hs) : fB_undoCount N 0 h = some (Int32.ofInt (nu 1), h) := by
  unfold fB_undoCount
  rw [zc_T0 C, cond_true, zc_r01 C, b1_s, zc_cnt C, b1_s]
theorem zq_kind (C : zc h sL sT sS sK wd nu hs) : fB_scriptErrorKind N 0 h = some (Int32.ofInt (nu 2), h) := by
  unfold fB_scriptErrorKind
  rw [zc_T0 C, cond_true, zc_r04 C, b1_s, zc_sc C 2 (by omega), b1_s]
theorem zq_offset (C : zc h sL sT sS sK wd nu hs) : fB_scriptErrorOffset N 0 h = some (Int32.ofInt (nu 3), h) := by
  unfold fB_scriptErrorOffset
  rw [zc_T0 C, cond_true, zc_r04 C, b1_s, zc_sc C 3 (by omega), b1_s]
theorem zq_keptCount (C : zc h sL sT sS sK wd nu hs) : fB_keptCount N 0 h = some (Int32.ofInt (sK 1 : Int), h) := by
  unfold fB_keptCount
  rw [zc_T0 C, cond_true, zc_r00 C, b1_s, zs_K (zc_now C), b1_s]
theorem zq_greatestKept (C : zc h sL sT sS sK wd nu hs) (hN : 3000 ≤ N) : fB_greatestKept N 0 h = some (Int32.ofInt (zs_gi (zs_g (sS 1) 0 (sK 1) 0 none)), h) := by
  have e := zs_great (N := N) (by omega) (zc_now C) (m := 0) (by decide)
  unfold fB_greatestKept
  rw [zc_T0 C, cond_true, zc_r00 C, b1_s, show Int32.ofInt 0 = Int32.ofInt ((0 : Nat) : Int) from rfl, e, b2]
theorem zq_reportByte (C : zc h sL sT sS sK wd nu hs) (x : Int) (hx : -2147483648 ≤ x ∧ x < 2147483648) : fB_reportByte N 0 (Int32.ofInt x) h = some (Int32.ofInt (zw_g (wd 228) x), h) := by
  have W := zc_wd C (o := 228) (n := 240) (Or.inr (Or.inl ⟨rfl, rfl⟩))
  unfold fB_reportByte
  rw [zc_T0 C, cond_true, zc_r05 C, b1_s, zw_at W x hx, b2]
theorem zq_keptLength (C : zc h sL sT sS sK wd nu hs) (x : Int) (hx : -2147483648 ≤ x ∧ x < 2147483648) : fB_keptLength N 0 (Int32.ofInt x) h = if 0 ≤ x ∧ x < (sK 1 : Int) then some (.inl (Int32.ofInt (((sS 1) x.toNat).length : Int)), h) else some (.inr 2, h) := by
  have H := zc_now C
  have hK := H.2.2.2.2.2.1
  unfold fB_keptLength
  rw [zc_T0 C, cond_true, zc_r00 C, b1_s, zs_at H x hx, b2]
  by_cases e : 0 ≤ x ∧ x < (sK 1 : Int)
  · rw [if_pos e, if_pos e]
    show cond (fX h (1 + 4 + 2 * x.toNat)) (b1 (fI h (1 + 4 + 2 * x.toNat) 4 1) _) none = _
    rw [zs_X H (by omega), cond_true, zw_z (H.2.2.2.2.1 x.toNat (by omega)), b1_s]
  · rw [if_neg e, if_neg e]
theorem zq_keptLetter (C : zc h sL sT sS sK wd nu hs) (x y : Int) (hx : -2147483648 ≤ x ∧ x < 2147483648) (hy : -2147483648 ≤ y ∧ y < 2147483648) : fB_keptLetter N 0 (Int32.ofInt x) (Int32.ofInt y) h = if 0 ≤ x ∧ x < (sK 1 : Int) then some (.inl (Int32.ofInt (zw_g ((sS 1) x.toNat) y)), h) else some (.inr 2, h) := by
  have H := zc_now C
  have hK := H.2.2.2.2.2.1
  unfold fB_keptLetter
  rw [zc_T0 C, cond_true, zc_r00 C, b1_s, zs_at H x hx, b2]
  by_cases e : 0 ≤ x ∧ x < (sK 1 : Int)
  · rw [if_pos e, if_pos e]
    show cond (fX h (1 + 4 + 2 * x.toNat)) (b2 (fW_at N (1 + 4 + 2 * x.toNat) (Int32.ofInt y) h) _) none = _
    rw [zs_X H (by omega), cond_true, zw_at (H.2.2.2.2.1 x.toNat (by omega)) y hy, b2]
  · rw [if_neg e, if_neg e]
theorem zq_isShelfFalling (C : zc h sL sT sS sK wd nu hs) (hN : 3000 ≤ N) : fB_isShelfFalling N 0 h = some (cond (zc_fall (sS 1) (sK 1) (sK 1 - 1)) (Int32.ofInt 1) (Int32.ofInt 0), h) := by
  have H := zc_now C
  have hK := H.2.2.2.2.2.1
  have key : ∀ c f i : Nat, c < f → 1 ≤ i → (i + c = sK 1 ∨ (c = 0 ∧ sK 1 ≤ i)) → i ≤ 10 → fB_isShelfFalling_2 N f 0 (Int32.ofInt (i : Int)) h = some (cond (zc_fall (sS 1) (sK 1) c) (Int32.ofInt 1) (Int32.ofInt 0), h) := by
    intro c
    induction c with
    | zero =>
      intro f i h1 h2 h3 h4
      obtain ⟨g, rfl⟩ : ∃ g, f = g + 1 := ⟨f - 1, by omega⟩
      rw [fB_isShelfFalling_2, zc_r00 C, b1_s, zs_K H, b1_s, zqo_ge _ _ (by omega) (by omega), decide_eq_true (by omega), cond_true]
      rfl
    | succ c ih =>
      intro f i h1 h2 h3 h4
      obtain ⟨g, rfl⟩ : ∃ g, f = g + 1 := ⟨f - 1, by omega⟩
      have Wi := H.2.2.2.2.1 i (by omega)
      have Wj := H.2.2.2.2.1 (i - 1) (by omega)
      have ho := zw_order (N := N) Wi Wj (by omega) (a := 0) (b := (sS 1 i).length) (c := 0) (d := (sS 1 (i - 1)).length) (Nat.le_refl _) (Nat.le_refl _) (Nat.zero_le _) (Nat.zero_le _)
      rw [zw_pall, zw_pall] at ho
      have hb := zw_cmpb (sS 1 i) (sS 1 (i - 1))
      rw [fB_isShelfFalling_2, zc_r00 C, b1_s, zs_K H, b1_s, zqo_ge _ _ (by omega) (by omega), decide_eq_false (by omega), cond_false, b1_s, zs_at H _ (by omega), b2, if_pos (by omega)]
      show b1 (fR h 0 0 0) _ = _
      rw [zc_r00 C, b1_s, zw_sub, show (i : Int) - 1 = ((i - 1 : Nat) : Int) by omega, zs_at H _ (by omega), b2, if_pos (by omega)]
      show cond (fX h (1 + 4 + 2 * i)) (cond (fX h (1 + 4 + 2 * (i - 1))) _ none) none = _
      rw [zs_X H (by omega), cond_true, zs_X H (by omega), cond_true, show ((i : Nat) : Int).toNat = i by omega, show ((i - 1 : Nat) : Int).toNat = i - 1 by omega, zw_z Wi, b1_s, zw_z Wj, b1_s, show Int32.ofInt 0 = Int32.ofInt ((0 : Nat) : Int) from rfl, ho, b2, zqo_le _ _ (by omega) (by omega), zc_fall, show sK 1 - (c + 1) = i by omega]
      by_cases e : zw_cmp (sS 1 i) (sS 1 (i - 1)) = 1
      · rw [decide_eq_false (by omega), cond_false, if_pos e]
        rfl
      · rw [decide_eq_true (by omega), cond_true, if_neg e]
        unfold fB_isShelfFalling_61
        rw [zh_inc]
        exact ih g (i + 1) (by omega) (by omega) (by omega) (by omega)
  unfold fB_isShelfFalling
  rw [zc_T0 C, cond_true]
  exact key (sK 1 - 1) N 1 (by omega) (by omega) (by omega) (by omega)
end ZCQ
end
section
/-! THE CLASS'S QUESTIONS about factors and parts. -/
theorem zm_itm {l : List Nat} : ∀ c s, ∀ t ∈ zm_it l c s, t.1 < l.length ∧ t.2 = zw_lE l t.1 := by
  intro c
  induction c with
  | zero => intro s t h; cases h
  | succ c ih =>
    intro s t h
    rw [zm_it] at h
    by_cases e : l.length ≤ s
    · rw [if_pos e] at h
      cases h
    · rw [if_neg e] at h
      rcases List.mem_cons.mp h with h | h
      · rw [h]
        exact ⟨by omega, rfl⟩
      · exact ih _ t h
theorem zw_bFb (l : List Nat) (x : Int) : zw_bF l x = -1 ∨ (0 ≤ zw_bF l x ∧ zw_bF l x < (l.length : Int)) := by
  unfold zw_bF
  by_cases e : x < 0
  · rw [if_pos e]
    exact Or.inl rfl
  · rw [if_neg e, zm_fs]
    cases h : (zm_it l l.length 0)[x.toNat]? with
    | none => exact Or.inl rfl
    | some t =>
      have := (zm_itm _ _ t (List.mem_of_getElem? h)).1
      refine Or.inr ?_
      show 0 ≤ (t.1 : Int) ∧ (t.1 : Int) < (l.length : Int)
      omega
/-- no such part -/
def zc_part (T : List Nat) (x y : Int) : Bool := decide (0 ≤ x ∧ x ≤ y ∧ y ≤ (T.length : Int))
section ZCR
variable {N : Nat} {h : zH} {sL : Nat → Nat} {sT : Nat → List Nat} {sS : Nat → Nat → List Nat} {sK : Nat → Nat} {wd : Nat → List Nat} {nu : Nat → Int} {hs : Nat → Nat}
theorem zq_checked (C : zc h sL sT sS sK wd nu hs) (hN : 3000 ≤ N) (x : Int) (hx : -2147483648 ≤ x ∧ x < 2147483648) : fB_checkedBegin N 0 (Int32.ofInt x) h = if zw_bF (sT 1) x = -1 then some (.inr 2, h) else some (.inl (Int32.ofInt (zw_bF (sT 1) x)), h) := by
  have tl := (zc_txt C).2.2.2.1
  have b := zw_bFb (sT 1) x
  unfold fB_checkedBegin
  rw [zc_T0 C, cond_true, zc_r00 C, b1_s, zs_t (zc_now C), b1_s, zw_begin (zc_txt C) (by omega) x hx, b2, zqo_ne _ _ (by omega) (by decide)]
  by_cases e : zw_bF (sT 1) x = -1
  · rw [decide_eq_true e, Bool.not_true, cond_false, if_pos e]
  · rw [decide_eq_false e, Bool.not_false, cond_true, if_neg e]
theorem zq_factorStart (C : zc h sL sT sS sK wd nu hs) (hN : 3000 ≤ N) (x : Int) (hx : -2147483648 ≤ x ∧ x < 2147483648) : fB_factorStart N 0 (Int32.ofInt x) h = if zw_bF (sT 1) x = -1 then some (.inr 2, h) else some (.inl (Int32.ofInt (zw_bF (sT 1) x)), h) := by
  unfold fB_factorStart
  rw [zc_T0 C, cond_true, zq_checked C hN x hx]
  by_cases e : zw_bF (sT 1) x = -1
  · rw [if_pos e]
    rfl
  · rw [if_neg e]
    rfl
theorem zq_factorLength (C : zc h sL sT sS sK wd nu hs) (hN : 3000 ≤ N) (x : Int) (hx : -2147483648 ≤ x ∧ x < 2147483648) : fB_factorLength N 0 (Int32.ofInt x) h = if zw_bF (sT 1) x = -1 then some (.inr 2, h) else some (.inl (Int32.ofInt ((zw_lE (sT 1) (zw_bF (sT 1) x).toNat : Int) - zw_bF (sT 1) x)), h) := by
  have b := zw_bFb (sT 1) x
  unfold fB_factorLength
  rw [zc_T0 C, cond_true, zq_checked C hN x hx]
  by_cases e : zw_bF (sT 1) x = -1
  · rw [if_pos e, if_pos e]
    rfl
  · rw [if_neg e, if_neg e]
    obtain ⟨k, hk⟩ : ∃ k : Nat, zw_bF (sT 1) x = (k : Int) := ⟨(zw_bF (sT 1) x).toNat, by omega⟩
    rw [hk] at b ⊢
    show b1 (fR h 0 0 0) _ = _
    rw [zc_r00 C, b1_s, zs_t (zc_now C), b1_s, zw_lyn (zc_txt C) (by omega) (show k < (sT 1).length by omega), b2, zw_sub]
    rfl
theorem zq_factorPower (C : zc h sL sT sS sK wd nu hs) (hN : 3000 ≤ N) (x : Int) (hx : -2147483648 ≤ x ∧ x < 2147483648) : fB_factorPower N 0 (Int32.ofInt x) h = if zw_bF (sT 1) x = -1 then some (.inr 2, h) else some (.inl (Int32.ofInt ((zw_like (sT 1) (zw_bF (sT 1) x).toNat (zw_lE (sT 1) (zw_bF (sT 1) x).toNat) (zw_fs (sT 1)) : Nat) : Int)), h) := by
  have b := zw_bFb (sT 1) x
  unfold fB_factorPower
  rw [zc_T0 C, cond_true, zq_checked C hN x hx]
  by_cases e : zw_bF (sT 1) x = -1
  · rw [if_pos e, if_pos e]
    rfl
  · rw [if_neg e, if_neg e]
    obtain ⟨k, hk⟩ : ∃ k : Nat, zw_bF (sT 1) x = (k : Int) := ⟨(zw_bF (sT 1) x).toNat, by omega⟩
    rw [hk] at b ⊢
    have hb := zw_lEb (show k < (sT 1).length by omega)
    show b1 (fR h 0 0 0) _ = _
    rw [zc_r00 C, b1_s, zs_t (zc_now C), b1_s, b1_s, zs_t (zc_now C), b1_s, zw_lyn (zc_txt C) (by omega) (show k < (sT 1).length by omega), b2, zw_likes (zc_txt C) (by omega) (by omega) hb.2, b2]
    rfl
theorem zq_checkPart (C : zc h sL sT sS sK wd nu hs) (x y : Int) (hx : -2147483648 ≤ x ∧ x < 2147483648) (hy : -2147483648 ≤ y ∧ y < 2147483648) : fB_checkPart N 0 (Int32.ofInt x) (Int32.ofInt y) h = cond (zc_part (sT 1) x y) (some (.inl (), h)) (some (.inr 0, h)) := by
  have tl := (zc_txt C).2.2.2.1
  unfold fB_checkPart zc_part
  rw [zc_T0 C, cond_true, zqo_lt _ _ hx (by decide), zqo_lt _ _ hy hx, zc_r00 C, b1_s, zs_t (zc_now C), b1_s, zw_z (zc_txt C), b1_s, zqo_le _ _ hy (by omega)]
  by_cases e1 : x < 0
  · rw [decide_eq_true e1, cond_true, decide_eq_false (by omega)]
    rfl
  · rw [decide_eq_false e1, cond_false]
    by_cases e2 : y < x
    · rw [decide_eq_true e2, cond_true, decide_eq_false (by omega)]
      rfl
    · rw [decide_eq_false e2, cond_false]
      by_cases e3 : y ≤ ((sT 1).length : Int)
      · rw [decide_eq_true e3, cond_true, decide_eq_true (by omega)]
        rfl
      · rw [decide_eq_false e3, cond_false, decide_eq_false (by omega)]
        rfl
theorem zq_compareParts (C : zc h sL sT sS sK wd nu hs) (hN : 3000 ≤ N) (x y z w : Int) (hx : -2147483648 ≤ x ∧ x < 2147483648) (hy : -2147483648 ≤ y ∧ y < 2147483648) (hz : -2147483648 ≤ z ∧ z < 2147483648) (hw : -2147483648 ≤ w ∧ w < 2147483648) : fB_compareParts N 0 (Int32.ofInt x) (Int32.ofInt y) (Int32.ofInt z) (Int32.ofInt w) h = cond (zc_part (sT 1) x y && zc_part (sT 1) z w) (some (.inl (Int32.ofInt (zw_cmp (zw_p (sT 1) x.toNat y.toNat) (zw_p (sT 1) z.toNat w.toNat))), h)) (some (.inr 0, h)) := by
  unfold fB_compareParts
  rw [zc_T0 C, cond_true, zq_checkPart C x y hx hy]
  cases e1 : zc_part (sT 1) x y with
  | false => rfl
  | true =>
    rw [cond_true, Bool.true_and]
    show bX (fB_checkPart N 0 (Int32.ofInt z) (Int32.ofInt w) h) _ = _
    rw [zq_checkPart C z w hz hw]
    cases e2 : zc_part (sT 1) z w with
    | false => rfl
    | true =>
      rw [cond_true, cond_true]
      show b1 (fR h 0 0 0) _ = _
      have p1 := of_decide_eq_true e1
      have p2 := of_decide_eq_true e2
      obtain ⟨a, rfl⟩ : ∃ a : Nat, x = (a : Int) := ⟨x.toNat, by omega⟩
      obtain ⟨b, rfl⟩ : ∃ b : Nat, y = (b : Int) := ⟨y.toNat, by omega⟩
      obtain ⟨c, rfl⟩ : ∃ c : Nat, z = (c : Int) := ⟨z.toNat, by omega⟩
      obtain ⟨d, rfl⟩ : ∃ d : Nat, w = (d : Int) := ⟨w.toNat, by omega⟩
      rw [zc_r00 C, b1_s, zs_t (zc_now C), b1_s, b1_s, zs_t (zc_now C), b1_s, zw_order (zc_txt C) (zc_txt C) (by omega) (by omega) (by omega) (by omega) (by omega), b2]
      rfl
/-- what the trial word is used for -/
theorem zq_trial (C : zc h sL sT sS sK wd nu hs) : zw_W h 230 121 (wd 230) := zc_wd C (Or.inr (Or.inr ⟨rfl, rfl⟩))
theorem zq_checkLetter (C : zc h sL sT sS sK wd nu hs) (x : Int) (hx : -2147483648 ≤ x ∧ x < 2147483648) : fB_checkLetter N 0 (Int32.ofInt x) h = cond (decide (97 ≤ x ∧ x < 97 + (sL 1 : Int))) (some (.inl (), h)) (some (.inr 0, h)) := by
  unfold fB_checkLetter
  rw [zc_T0 C, cond_true, zc_r00 C, b1_s, zs_isLetter (zc_now C) x hx, b2]
  cases decide (97 ≤ x ∧ x < 97 + (sL 1 : Int)) <;> rfl
theorem zq_checkCount (C : zc h sL sT sS sK wd nu hs) (x : Int) (hx : -2147483648 ≤ x ∧ x < 2147483648) : fB_checkCount N 0 (Int32.ofInt x) h = cond (decide (0 ≤ x ∧ x ≤ ((sT 1).length : Int))) (some (.inl (), h)) (some (.inr 0, h)) := by
  have tl := (zc_txt C).2.2.2.1
  unfold fB_checkCount
  rw [zc_T0 C, cond_true, zqo_lt _ _ hx (by decide), zc_r00 C, b1_s, zs_t (zc_now C), b1_s, zw_z (zc_txt C), b1_s, zqo_le _ _ hx (by omega)]
  by_cases e1 : x < 0
  · rw [decide_eq_true e1, cond_true, decide_eq_false (by omega)]
    rfl
  · rw [decide_eq_false e1, cond_false]
    by_cases e2 : x ≤ ((sT 1).length : Int)
    · rw [decide_eq_true e2, cond_true, decide_eq_true (by omega)]
      rfl
    · rw [decide_eq_false e2, cond_false, decide_eq_false (by omega)]
      rfl
theorem zq_ifAppended (C : zc h sL sT sS sK wd nu hs) (hN : 3000 ≤ N) (hL : sL 1 ≤ 9) (x : Int) (hx : -2147483648 ≤ x ∧ x < 2147483648) : (97 ≤ x ∧ x < 97 + (sL 1 : Int) ∧ ∃ h', fB_factorsIfAppended N 0 (Int32.ofInt x) h = some (.inl (Int32.ofInt (((zw_fs (sT 1 ++ [x.toNat])).length : Nat) : Int)), h') ∧ zc h' sL sT sS sK (zc_u wd 230 (sT 1 ++ [x.toNat])) nu hs ∧ zc_F h h') ∨ (¬ (97 ≤ x ∧ x < 97 + (sL 1 : Int)) ∧ fB_factorsIfAppended N 0 (Int32.ofInt x) h = some (.inr 0, h)) := by
  unfold fB_factorsIfAppended
  rw [zc_T0 C, cond_true, zq_checkLetter C x hx]
  by_cases e : 97 ≤ x ∧ x < 97 + (sL 1 : Int)
  · refine Or.inl ⟨e.1, e.2, ?_⟩
    have W := zc_txt C
    have tl := W.2.2.2.1
    obtain ⟨v, rfl⟩ : ∃ v : Nat, x = (v : Int) := ⟨x.toNat, by omega⟩
    obtain ⟨h1, e1, W1, F1⟩ := zw_copy (N := N) (show zw_d (1 + 1) 230 by unfold zw_d; omega) (zq_trial C) W (by omega) (by omega)
    obtain ⟨C1, G1⟩ := zc_word C (Or.inr (Or.inr ⟨rfl, rfl⟩)) W1 F1
    obtain ⟨h2, e2, W2, F2⟩ := zw_addN (N := N) W1 v (by omega) (by omega)
    obtain ⟨C2, G2⟩ := zc_word C1 (Or.inr (Or.inr ⟨rfl, rfl⟩)) W2 F2
    have eu : zc_u (zc_u wd 230 (sT 1)) 230 (sT 1 ++ [v]) = zc_u wd 230 (sT 1 ++ [v]) := by
      funext k
      unfold zc_u
      by_cases e3 : k = 230
      · rw [if_pos e3, if_pos e3]
      · rw [if_neg e3, if_neg e3, if_neg e3]
    rw [eu] at C2
    refine ⟨h2, ?_, C2, zc_Ft G1 G2⟩
    rw [decide_eq_true e, cond_true]
    show b1 (fR h 0 0 6) _ = _
    rw [zc_r06 C, b1_s, zc_r00 C, b1_s, zs_t (zc_now C), b1_s, e1, b2, zc_r06 C1, b1_s, e2, b2, zc_r06 C2, b1_s, zw_count W2 (by omega), b2]
    rfl
  · refine Or.inr ⟨e, ?_⟩
    rw [decide_eq_false e, cond_false]
    rfl
theorem zq_ifRotated (C : zc h sL sT sS sK wd nu hs) (hN : 3000 ≤ N) (x : Int) (hx : -2147483648 ≤ x ∧ x < 2147483648) : (0 ≤ x ∧ x ≤ ((sT 1).length : Int) ∧ ∃ h', fB_factorsIfRotated N 0 (Int32.ofInt x) h = some (.inl (Int32.ofInt (((zw_fs (zw_trn (sT 1) x.toNat)).length : Nat) : Int)), h') ∧ zc h' sL sT sS sK (zc_u wd 230 (zw_trn (sT 1) x.toNat)) nu hs ∧ zc_F h h') ∨ (¬ (0 ≤ x ∧ x ≤ ((sT 1).length : Int)) ∧ fB_factorsIfRotated N 0 (Int32.ofInt x) h = some (.inr 0, h)) := by
  unfold fB_factorsIfRotated
  rw [zc_T0 C, cond_true, zq_checkCount C x hx]
  by_cases e : 0 ≤ x ∧ x ≤ ((sT 1).length : Int)
  · refine Or.inl ⟨e.1, e.2, ?_⟩
    have W := zc_txt C
    have tl := W.2.2.2.1
    obtain ⟨v, rfl⟩ : ∃ v : Nat, x = (v : Int) := ⟨x.toNat, by omega⟩
    obtain ⟨h1, e1, W1, F1⟩ := zw_copy (N := N) (show zw_d (1 + 1) 230 by unfold zw_d; omega) (zq_trial C) W (by omega) (by omega)
    obtain ⟨C1, G1⟩ := zc_word C (Or.inr (Or.inr ⟨rfl, rfl⟩)) W1 F1
    obtain ⟨h2, e2, W2, F2⟩ := zw_turn (N := N) W1 (by omega) (c := v) (by omega)
    obtain ⟨C2, G2⟩ := zc_word C1 (Or.inr (Or.inr ⟨rfl, rfl⟩)) W2 F2
    have eu : zc_u (zc_u wd 230 (sT 1)) 230 (zw_trn (sT 1) v) = zc_u wd 230 (zw_trn (sT 1) v) := by
      funext k
      unfold zc_u
      by_cases e3 : k = 230
      · rw [if_pos e3, if_pos e3]
      · rw [if_neg e3, if_neg e3, if_neg e3]
    rw [eu] at C2
    refine ⟨h2, ?_, C2, zc_Ft G1 G2⟩
    rw [decide_eq_true e, cond_true]
    show b1 (fR h 0 0 6) _ = _
    rw [zc_r06 C, b1_s, zc_r00 C, b1_s, zs_t (zc_now C), b1_s, e1, b2, zc_r06 C1, b1_s, e2, b2, zc_r06 C2, b1_s, zw_count W2 (by omega), b2]
    rfl
  · refine Or.inr ⟨e, ?_⟩
    rw [decide_eq_false e, cond_false]
    rfl
end ZCR
end
section
/-! THE CLASS AS IT IS SEEN: states as letters, text and kept words. -/
abbrev zA := Nat × List Nat × List (List Nat)
def zv_a (sL : Nat → Nat) (sT : Nat → List Nat) (sS : Nat → Nat → List Nat) (sK : Nat → Nat) (q : Nat) : zA := (sL q, sT q, (List.range (sK q)).map (sS q))
/-- a state that can be -/
def zv_ok (A : zA) : Prop := (2 ≤ A.1 ∧ A.1 ≤ 9) ∧ A.2.1.length ≤ 120 ∧ (∀ v ∈ A.2.1, 97 ≤ v ∧ v < 97 + A.1) ∧ A.2.2.length ≤ 8 ∧ ∀ w ∈ A.2.2, 1 ≤ w.length ∧ w.length ≤ 40 ∧ ∀ v ∈ w, 97 ≤ v ∧ v < 97 + A.1
/-- the report, the script's kind and offset -/
abbrev zvP := List Nat × Int × Int
def zv (h : zH) (now : zA) (hist : List zA) (snap : zA) (sv : Int) (inp : List Nat) (rep : zvP) : Prop := ∃ sL sT sS sK wd nu hs, zc h sL sT sS sK wd nu hs ∧ zv_a sL sT sS sK 1 = now ∧ nu 1 = (hist.length : Int) ∧ hist.length ≤ 8 ∧ (∀ i, i < hist.length → hist[i]? = some (zv_a sL sT sS sK (hs i))) ∧ zv_a sL sT sS sK 183 = snap ∧ nu 0 = sv ∧ wd 204 = inp ∧ (wd 228 = rep.1 ∧ nu 2 = rep.2.1 ∧ nu 3 = rep.2.2) ∧ ∀ q, zc_Q q → zv_ok (zv_a sL sT sS sK q)
/-- one more remembered -/
def zv_push (hist : List zA) (A : zA) : List zA := (if hist.length = 8 then hist.tail else hist) ++ [A]
theorem zv_pushl {hist : List zA} {A : zA} (h : hist.length ≤ 8) : (zv_push hist A).length = min hist.length 7 + 1 := by
  unfold zv_push
  rw [List.length_append]
  split
  · rw [List.length_tail]
    show hist.length - 1 + 1 = _
    omega
  · show hist.length + 1 = _
    omega
theorem zv_map {S S' : Nat → List Nat} {K : Nat} (h : ∀ j, j < K → S' j = S j) : (List.range K).map S' = (List.range K).map S := List.map_congr_left fun j hj => h j (List.mem_range.mp hj)
theorem zv_aeq {sL sL' : Nat → Nat} {sT sT' : Nat → List Nat} {sS sS' : Nat → Nat → List Nat} {sK sK' : Nat → Nat} {p q : Nat} (h1 : sL' p = sL q) (h2 : sT' p = sT q) (h3 : sK' p = sK q) (h4 : ∀ j, j < sK q → sS' p j = sS q j) : zv_a sL' sT' sS' sK' p = zv_a sL sT sS sK q := by
  unfold zv_a
  rw [h1, h2, h3, zv_map h4]
section ZVV
variable {N : Nat} {h : zH} {now snap : zA} {hist : List zA} {sv : Int} {inp : List Nat} {rep : zvP}
/-- the state opened: what may be done with it -/
theorem zv_open (V : zv h now hist snap sv inp rep) : zv_ok now ∧ ∃ S, zs_S h 1 now.1 now.2.1 S now.2.2.length ∧ (List.range now.2.2.length).map S = now.2.2 ∧ ∀ h' L' T' S' K', zs_S h' 1 L' T' S' K' → zs_F h h' 1 → zv_ok (L', T', (List.range K').map S') → zv h' (L', T', (List.range K').map S') hist snap sv inp rep ∧ zc_F h h' := by
  obtain ⟨sL, sT, sS, sK, wd, nu, hs, C, v1, v2, v3, v4, v5, v6, v7, v8, v9⟩ := V
  have lk : now.2.2.length = sK 1 := by
    rw [← v1]
    show ((List.range (sK 1)).map (sS 1)).length = sK 1
    rw [List.length_map, List.length_range]
  have l1 : now.1 = sL 1 := by rw [← v1]; rfl
  have l2 : now.2.1 = sT 1 := by rw [← v1]; rfl
  have l3 : now.2.2 = (List.range (sK 1)).map (sS 1) := by rw [← v1]; rfl
  refine ⟨by rw [← v1]; exact v9 1 (Or.inl rfl), sS 1, ?_, ?_, ?_⟩
  · rw [l1, l2, lk]
    exact zc_now C
  · rw [lk, l3]
  · intro h' L' T' S' K' H F ok
    obtain ⟨C2, F2⟩ := zc_state C (Or.inl rfl) H F
    refine ⟨⟨_, _, _, _, _, _, _, C2, ?_, v2, v3, ?_, ?_, v6, v7, v8, ?_⟩, F2⟩
    · unfold zv_a
      rw [zc_us, zc_us, zc_us, zc_us]
    · intro i hi
      have hq := zc_hq C (show i < 8 by omega)
      obtain ⟨k, k1, k2⟩ := C.2.2.2.2.2.2.2.2.1 i (by omega)
      rw [v4 i hi]
      congr 1
      unfold zv_a
      rw [zc_un _ _ (show hs i ≠ 1 by omega), zc_un _ _ (show hs i ≠ 1 by omega), zc_un _ _ (show hs i ≠ 1 by omega), zc_un _ _ (show hs i ≠ 1 by omega)]
    · rw [← v5]
      rfl
    · intro q hq
      by_cases e : q = 1
      · subst e
        unfold zv_a
        rw [zc_us, zc_us, zc_us, zc_us]
        exact ok
      · have := v9 q hq
        unfold zv_a at this ⊢
        rw [zc_un _ _ e, zc_un _ _ e, zc_un _ _ e, zc_un _ _ e]
        exact this
/-- the state remembered -/
theorem zv_remember (V : zv h now hist snap sv inp rep) (hN : 1000 ≤ N) : ∃ h', fH_remember N 21 1 h = some ((), h') ∧ zv h' now (zv_push hist now) snap sv inp rep ∧ zc_F h h' := by
  obtain ⟨sL, sT, sS, sK, wd, nu, hs, C, v1, v2, v3, v4, v5, v6, v7, v8, v9⟩ := V
  obtain ⟨h1, S1, hs1, e1, d1, C1, r1, F1⟩ := zc_remember (N := N) C hN v2 v3
  refine ⟨h1, e1, ⟨_, _, _, _, _, _, _, C1, ?_, ?_, ?_, ?_, ?_, ?_, v7, ⟨v8.1, (zc_un nu _ (show (2 : Nat) ≠ 1 by decide)).trans v8.2.1, (zc_un nu _ (show (3 : Nat) ≠ 1 by decide)).trans v8.2.2⟩, ?_⟩, F1⟩
  all_goals
    have slot : ∃ k, k < 8 ∧ hs1 (min hist.length 7) = 23 + 20 * k := C1.2.2.2.2.2.2.2.2.1 _ (by omega)
    obtain ⟨k, k1, k2⟩ := slot
  · rw [← v1]
    unfold zv_a
    rw [zc_un _ _ (show (1 : Nat) ≠ hs1 (min hist.length 7) by omega), zc_un _ _ (show (1 : Nat) ≠ hs1 (min hist.length 7) by omega), zc_un _ _ (show (1 : Nat) ≠ hs1 (min hist.length 7) by omega), zc_un _ _ (show (1 : Nat) ≠ hs1 (min hist.length 7) by omega)]
  · rw [zc_us, zv_pushl v3]
    rfl
  · rw [zv_pushl v3]
    omega
  · intro i hi
    rw [zv_pushl v3] at hi
    by_cases e : i = min hist.length 7
    · have ea : zv_a (zc_u sL (hs1 (min hist.length 7)) (sL 1)) (zc_u sT (hs1 (min hist.length 7)) (sT 1)) (zc_u sS (hs1 (min hist.length 7)) S1) (zc_u sK (hs1 (min hist.length 7)) (sK 1)) (hs1 i) = now := by
        rw [← v1, e]
        refine zv_aeq (zc_us _ _ _) (zc_us _ _ _) (zc_us _ _ _) (fun j hj => ?_)
        rw [zc_us]
        exact r1 j hj
      rw [ea]
      unfold zv_push
      split
      · rw [List.getElem?_append_right (by rw [List.length_tail]; omega), List.length_tail, show i - (hist.length - 1) = 0 by omega]
        rfl
      · rw [List.getElem?_append_right (by omega), show i - hist.length = 0 by omega]
        rfl
    · have ne : hs1 i ≠ hs1 (min hist.length 7) := C1.2.2.2.2.2.2.2.2.2 i _ (by omega) (by omega) e
      have ea : zv_a (zc_u sL (hs1 (min hist.length 7)) (sL 1)) (zc_u sT (hs1 (min hist.length 7)) (sT 1)) (zc_u sS (hs1 (min hist.length 7)) S1) (zc_u sK (hs1 (min hist.length 7)) (sK 1)) (hs1 i) = zv_a sL sT sS sK (hs1 i) := by
        unfold zv_a
        rw [zc_un _ _ ne, zc_un _ _ ne, zc_un _ _ ne, zc_un _ _ ne]
      rw [ea]
      unfold zv_push
      by_cases e8 : hist.length = 8
      · rw [if_pos e8]
        rw [if_pos e8] at d1
        rw [List.getElem?_append_left (by rw [List.length_tail]; omega), List.getElem?_tail, v4 (i + 1) (by omega), d1, zc_rotv hs i (by omega), if_neg (by omega)]
      · rw [if_neg e8]
        rw [if_neg e8] at d1
        rw [List.getElem?_append_left (by omega), v4 i (by omega), d1]
  · rw [← v5]
    unfold zv_a
    by_cases e : 183 = hs1 (min hist.length 7)
    · omega
    · rw [zc_un _ _ e, zc_un _ _ e, zc_un _ _ e, zc_un _ _ e]
  · rw [← v6]
    rfl
  · intro q hq
    by_cases e : q = hs1 (min hist.length 7)
    · have : zv_a (zc_u sL (hs1 (min hist.length 7)) (sL 1)) (zc_u sT (hs1 (min hist.length 7)) (sT 1)) (zc_u sS (hs1 (min hist.length 7)) S1) (zc_u sK (hs1 (min hist.length 7)) (sK 1)) q = zv_a sL sT sS sK 1 := by
        rw [e]
        refine zv_aeq (zc_us _ _ _) (zc_us _ _ _) (zc_us _ _ _) (fun j hj => ?_)
        rw [zc_us]
        exact r1 j hj
      rw [this]
      exact v9 1 (Or.inl rfl)
    · have := v9 q hq
      unfold zv_a at this ⊢
      rw [zc_un _ _ e, zc_un _ _ e, zc_un _ _ e, zc_un _ _ e]
      exact this
end ZVV
end
section
/-! THE CLASS'S CHANGES, as they are seen. -/
def zv_L (A : zA) (w : List Nat) : Prop := ∀ v ∈ w, 97 ≤ v ∧ v < 97 + A.1
section ZVC
variable {N : Nat} {h : zH} {now snap : zA} {hist : List zA} {sv : Int} {inp : List Nat} {rep : zvP}
theorem zv_T0 (V : zv h now hist snap sv inp rep) : fT h 0 0 = true := by
  obtain ⟨sL, sT, sS, sK, wd, nu, hs, C, _⟩ := V
  exact zc_T0 C
theorem zv_r00 (V : zv h now hist snap sv inp rep) : fR h 0 0 0 = some 1 := by
  obtain ⟨sL, sT, sS, sK, wd, nu, hs, C, _⟩ := V
  exact zc_r00 C
theorem zv_r01 (V : zv h now hist snap sv inp rep) : fR h 0 0 1 = some 21 := by
  obtain ⟨sL, sT, sS, sK, wd, nu, hs, C, _⟩ := V
  exact zc_r01 C
theorem zv_r04 (V : zv h now hist snap sv inp rep) : fR h 0 0 4 = some 203 := by
  obtain ⟨sL, sT, sS, sK, wd, nu, hs, C, _⟩ := V
  exact zc_r04 C
theorem zv_r20 (V : zv h now hist snap sv inp rep) : fR h 203 2 0 = some 204 := by
  obtain ⟨sL, sT, sS, sK, wd, nu, hs, C, _⟩ := V
  exact zc_r20 C
theorem zv_t (V : zv h now hist snap sv inp rep) : fR h 1 3 1 = some (1 + 1) := by
  obtain ⟨ok, S, H, _⟩ := zv_open V
  exact zs_t H
theorem zv_txt (V : zv h now hist snap sv inp rep) : zw_W h (1 + 1) 120 now.2.1 := by
  obtain ⟨ok, S, H, _⟩ := zv_open V
  exact H.2.2.2.1
/-- the text changed -/
theorem zv_text {h' : zH} {T : List Nat} (V : zv h now hist snap sv inp rep) (W : zw_W h' (1 + 1) 120 T) (F : zw_F h h' (1 + 1)) (hT : zv_L now T) : zv h' (now.1, T, now.2.2) hist snap sv inp rep ∧ zc_F h h' := by
  obtain ⟨ok, S, H, hS, cl⟩ := zv_open V
  obtain ⟨H2, F2⟩ := zs_text H W F
  have := cl h' _ _ _ _ H2 F2 ⟨ok.1, W.2.2.2.1, hT, by rw [hS]; exact ok.2.2.2.1, by rw [hS]; exact ok.2.2.2.2⟩
  rw [hS] at this
  exact this
theorem zv_count (V : zv h now hist snap sv inp rep) (x : Int) (hx : -2147483648 ≤ x ∧ x < 2147483648) : fB_checkCount N 0 (Int32.ofInt x) h = cond (decide (0 ≤ x ∧ x ≤ (now.2.1.length : Int))) (some (.inl (), h)) (some (.inr 0, h)) := by
  obtain ⟨sL, sT, sS, sK, wd, nu, hs, C, v1, _⟩ := V
  have := zq_checkCount (N := N) C x hx
  rw [← v1]
  exact this
theorem zv_letter (V : zv h now hist snap sv inp rep) (x : Int) (hx : -2147483648 ≤ x ∧ x < 2147483648) : fB_checkLetter N 0 (Int32.ofInt x) h = cond (decide (97 ≤ x ∧ x < 97 + (now.1 : Int))) (some (.inl (), h)) (some (.inr 0, h)) := by
  obtain ⟨sL, sT, sS, sK, wd, nu, hs, C, v1, _⟩ := V
  have := zq_checkLetter (N := N) C x hx
  rw [← v1]
  exact this
theorem zv_part (V : zv h now hist snap sv inp rep) (x y : Int) (hx : -2147483648 ≤ x ∧ x < 2147483648) (hy : -2147483648 ≤ y ∧ y < 2147483648) : fB_checkPart N 0 (Int32.ofInt x) (Int32.ofInt y) h = cond (zc_part now.2.1 x y) (some (.inl (), h)) (some (.inr 0, h)) := by
  obtain ⟨sL, sT, sS, sK, wd, nu, hs, C, v1, _⟩ := V
  have := zq_checkPart (N := N) C x y hx hy
  rw [← v1]
  exact this
theorem zk_appendLetter (V : zv h now hist snap sv inp rep) (hN : 3000 ≤ N) (x : Int) (hx : -2147483648 ≤ x ∧ x < 2147483648) : (¬ (97 ≤ x ∧ x < 97 + (now.1 : Int)) ∧ fB_appendLetter N 0 (Int32.ofInt x) h = some (.inr 0, h)) ∨ ((97 ≤ x ∧ x < 97 + (now.1 : Int)) ∧ now.2.1.length = 120 ∧ fB_appendLetter N 0 (Int32.ofInt x) h = some (.inr 1, h)) ∨ ((97 ≤ x ∧ x < 97 + (now.1 : Int)) ∧ now.2.1.length < 120 ∧ ∃ h', fB_appendLetter N 0 (Int32.ofInt x) h = some (.inl (Int32.ofInt ((zw_fs (now.2.1 ++ [x.toNat])).length : Int)), h') ∧ zv h' (now.1, now.2.1 ++ [x.toNat], now.2.2) (zv_push hist now) snap sv inp rep ∧ zc_F h h') := by
  have ok := (zv_open V).1
  have W := zv_txt V
  unfold fB_appendLetter
  rw [zv_T0 V, cond_true, zv_letter V x hx]
  by_cases e : 97 ≤ x ∧ x < 97 + (now.1 : Int)
  · refine Or.inr ?_
    rw [decide_eq_true e, cond_true]
    by_cases e2 : now.2.1.length = 120
    · refine Or.inl ⟨e, e2, ?_⟩
      show b1 (fR h 0 0 0) _ = _
      rw [zv_r00 V, b1_s, zv_t V, b1_s, zw_z W, b1_s, zqo_lt _ _ (by omega) (by decide), decide_eq_false (by omega), cond_false]
    · have h120 := ok.2.1
      obtain ⟨v, rfl⟩ : ∃ v : Nat, x = (v : Int) := ⟨x.toNat, by omega⟩
      have h9 := ok.1.2
      obtain ⟨h1, e1, V1, F1⟩ := zv_remember (N := N) V (by omega)
      have W1 := zv_txt V1
      obtain ⟨h2, e3, W2, F2⟩ := zw_addN (N := N) W1 v (by omega) (by omega)
      obtain ⟨V2, G2⟩ := zv_text V1 W2 F2 (fun u hu => by
        rw [List.mem_append, List.mem_singleton] at hu
        rcases hu with hu | hu
        · exact ok.2.2.1 u hu
        · omega)
      refine Or.inr ⟨e, by omega, h2, ?_, V2, zc_Ft F1 G2⟩
      show b1 (fR h 0 0 0) _ = _
      rw [zv_r00 V, b1_s, zv_t V, b1_s, zw_z W, b1_s, zqo_lt _ _ (by omega) (by decide), decide_eq_true (by omega), cond_true, zv_r01 V, b1_s, b1_s, e1, b2, zv_r00 V1, b1_s, zv_t V1, b1_s, e3, b2, zv_r00 V2, b1_s, zv_t V2, b1_s, zw_count W2 (by omega), b2]
      rfl
  · refine Or.inl ⟨e, ?_⟩
    rw [decide_eq_false e, cond_false]
    rfl
theorem zk_dropLast (V : zv h now hist snap sv inp rep) (hN : 3000 ≤ N) (x : Int) (hx : -2147483648 ≤ x ∧ x < 2147483648) : (¬ (0 ≤ x ∧ x ≤ (now.2.1.length : Int)) ∧ fB_dropLast N 0 (Int32.ofInt x) h = some (.inr 0, h)) ∨ ((0 ≤ x ∧ x ≤ (now.2.1.length : Int)) ∧ ∃ h', fB_dropLast N 0 (Int32.ofInt x) h = some (.inl (Int32.ofInt ((zw_fs (now.2.1.take (now.2.1.length - x.toNat))).length : Int)), h') ∧ zv h' (now.1, now.2.1.take (now.2.1.length - x.toNat), now.2.2) (zv_push hist now) snap sv inp rep ∧ zc_F h h') := by
  have ok := (zv_open V).1
  unfold fB_dropLast
  rw [zv_T0 V, cond_true, zv_count V x hx]
  by_cases e : 0 ≤ x ∧ x ≤ (now.2.1.length : Int)
  · refine Or.inr ⟨e, ?_⟩
    have h120 := ok.2.1
    obtain ⟨v, rfl⟩ : ∃ v : Nat, x = (v : Int) := ⟨x.toNat, by omega⟩
    obtain ⟨h1, e1, V1, F1⟩ := zv_remember (N := N) V (by omega)
    have W1 := zv_txt V1
    obtain ⟨h2, e3, W2, F2⟩ := zw_shorten (N := N) W1 ((now.2.1.length - v : Nat) : Int) (by omega)
    rw [if_pos (by omega), show ((now.2.1.length - v : Nat) : Int).toNat = now.2.1.length - v by omega] at W2
    obtain ⟨V2, G2⟩ := zv_text V1 W2 F2 (fun u hu => ok.2.2.1 u (List.mem_of_mem_take hu))
    refine ⟨h2, ?_, V2, zc_Ft F1 G2⟩
    rw [decide_eq_true e, cond_true]
    show b1 (fR h 0 0 1) _ = _
    rw [zv_r01 V, b1_s, zv_r00 V, b1_s, e1, b2, zv_r00 V1, b1_s, zv_t V1, b1_s, b1_s, zv_t V1, b1_s, zw_z W1, b1_s, zw_sub, show (now.2.1.length : Int) - (v : Int) = ((now.2.1.length - v : Nat) : Int) by omega, e3, b2, zv_r00 V2, b1_s, zv_t V2, b1_s, zw_count W2 (by omega), b2]
    rfl
  · refine Or.inl ⟨e, ?_⟩
    rw [decide_eq_false e, cond_false]
    rfl
theorem zk_cutPart (V : zv h now hist snap sv inp rep) (hN : 3000 ≤ N) (x y : Int) (hx : -2147483648 ≤ x ∧ x < 2147483648) (hy : -2147483648 ≤ y ∧ y < 2147483648) : (zc_part now.2.1 x y = false ∧ fB_cutPart N 0 (Int32.ofInt x) (Int32.ofInt y) h = some (.inr 0, h)) ∨ (zc_part now.2.1 x y = true ∧ ∃ h', fB_cutPart N 0 (Int32.ofInt x) (Int32.ofInt y) h = some (.inl (Int32.ofInt ((zw_p now.2.1 x.toNat y.toNat).length : Int)), h') ∧ zv h' (now.1, zw_p now.2.1 x.toNat y.toNat, now.2.2) (zv_push hist now) snap sv inp rep ∧ zc_F h h') := by
  have ok := (zv_open V).1
  unfold fB_cutPart
  rw [zv_T0 V, cond_true, zv_part V x y hx hy]
  cases e : zc_part now.2.1 x y with
  | true =>
    refine Or.inr ⟨rfl, ?_⟩
    have e := of_decide_eq_true e
    have h120 := ok.2.1
    obtain ⟨a, rfl⟩ : ∃ v : Nat, x = (v : Int) := ⟨x.toNat, by omega⟩
    obtain ⟨b, rfl⟩ : ∃ v : Nat, y = (v : Int) := ⟨y.toNat, by omega⟩
    obtain ⟨h1, e1, V1, F1⟩ := zv_remember (N := N) V (by omega)
    have W1 := zv_txt V1
    obtain ⟨h2, e3, W2, F2⟩ := zw_cut (N := N) W1 (by omega) (show a ≤ b by omega) (by omega)
    rw [zm_cut (by omega) (by omega)] at W2
    obtain ⟨V2, G2⟩ := zv_text V1 W2 F2 (fun u hu => ok.2.2.1 u (List.mem_of_mem_drop (List.mem_of_mem_take hu)))
    refine ⟨h2, ?_, V2, zc_Ft F1 G2⟩
    rw [cond_true]
    show b1 (fR h 0 0 1) _ = _
    rw [zv_r01 V, b1_s, zv_r00 V, b1_s, e1, b2, zv_r00 V1, b1_s, zv_t V1, b1_s, e3, b2, zv_r00 V2, b1_s, zv_t V2, b1_s, zw_z W2, b1_s]
    rfl
  | false => exact Or.inl ⟨rfl, rfl⟩
theorem zv_trnL {c : Nat} (hT : zv_L now now.2.1) (hc : c ≤ now.2.1.length) : zv_L now (zw_trn now.2.1 c) := by
  refine zm_mem (P := fun v => 97 ≤ v ∧ v < 97 + now.1) (fun j hj => ?_)
  rw [zw_trnl] at hj
  rw [zm_trn hc hj]
  exact zm_cget (P := fun v => 97 ≤ v ∧ v < 97 + now.1) hT (by omega) _
theorem zk_rotate (V : zv h now hist snap sv inp rep) (hN : 3000 ≤ N) (x : Int) (hx : -2147483648 ≤ x ∧ x < 2147483648) : (¬ (0 ≤ x ∧ x ≤ (now.2.1.length : Int)) ∧ fB_rotate N 0 (Int32.ofInt x) h = some (.inr 0, h)) ∨ ((0 ≤ x ∧ x ≤ (now.2.1.length : Int)) ∧ ∃ h', fB_rotate N 0 (Int32.ofInt x) h = some (.inl (Int32.ofInt ((zw_fs (zw_trn now.2.1 x.toNat)).length : Int)), h') ∧ zv h' (now.1, zw_trn now.2.1 x.toNat, now.2.2) (zv_push hist now) snap sv inp rep ∧ zc_F h h') := by
  have ok := (zv_open V).1
  unfold fB_rotate
  rw [zv_T0 V, cond_true, zv_count V x hx]
  by_cases e : 0 ≤ x ∧ x ≤ (now.2.1.length : Int)
  · refine Or.inr ⟨e, ?_⟩
    have h120 := ok.2.1
    obtain ⟨v, rfl⟩ : ∃ v : Nat, x = (v : Int) := ⟨x.toNat, by omega⟩
    obtain ⟨h1, e1, V1, F1⟩ := zv_remember (N := N) V (by omega)
    have W1 := zv_txt V1
    obtain ⟨h2, e3, W2, F2⟩ := zw_turn (N := N) W1 (by omega) (c := v) (by omega)
    obtain ⟨V2, G2⟩ := zv_text V1 W2 F2 (zv_trnL ok.2.2.1 (by omega))
    refine ⟨h2, ?_, V2, zc_Ft F1 G2⟩
    rw [decide_eq_true e, cond_true]
    show b1 (fR h 0 0 1) _ = _
    rw [zv_r01 V, b1_s, zv_r00 V, b1_s, e1, b2, zv_r00 V1, b1_s, zv_t V1, b1_s, e3, b2, zv_r00 V2, b1_s, zv_t V2, b1_s, zw_count W2 (by omega), b2]
    rfl
  · refine Or.inl ⟨e, ?_⟩
    rw [decide_eq_false e, cond_false]
    rfl
theorem zk_reverse (V : zv h now hist snap sv inp rep) (hN : 3000 ≤ N) : ∃ h', fB_reverse N 0 h = some (Int32.ofInt ((zw_fs (zw_mir now.2.1 0 now.2.1.length)).length : Int), h') ∧ zv h' (now.1, zw_mir now.2.1 0 now.2.1.length, now.2.2) (zv_push hist now) snap sv inp rep ∧ zc_F h h' := by
  have ok := (zv_open V).1
  obtain ⟨h1, e1, V1, F1⟩ := zv_remember (N := N) V (by omega)
  have W1 := zv_txt V1
  obtain ⟨h2, e3, W2, F2⟩ := zw_mirror (N := N) W1 (by omega) (Nat.zero_le now.2.1.length) (Nat.le_refl _)
  obtain ⟨V2, G2⟩ := zv_text V1 W2 F2 (zm_mem (P := fun v => 97 ≤ v ∧ v < 97 + now.1) (fun j hj => by
    rw [zm_mirl] at hj
    rw [zm_rev hj]
    exact zm_get (P := fun v => 97 ≤ v ∧ v < 97 + now.1) ok.2.2.1 (by omega)))
  refine ⟨h2, ?_, V2, zc_Ft F1 G2⟩
  unfold fB_reverse
  rw [zv_T0 V, cond_true, zv_r01 V, b1_s, zv_r00 V, b1_s, e1, b2, zv_r00 V1, b1_s, zv_t V1, b1_s, b1_s, zv_t V1, b1_s, zw_z W1, b1_s, show Int32.ofInt 0 = Int32.ofInt ((0 : Nat) : Int) from rfl, e3, b2, zv_r00 V2, b1_s, zv_t V2, b1_s, zw_count W2 (by omega), b2]
theorem zk_rotateToLeast (V : zv h now hist snap sv inp rep) (hN : 3000 ≤ N) : (now.2.1.length = 0 ∧ fB_rotateToLeast N 0 h = some (.inr 1, h)) ∨ (now.2.1.length ≠ 0 ∧ ∃ h', fB_rotateToLeast N 0 h = some (.inl (Int32.ofInt ((zm_least now.2.1 : Nat) : Int)), h') ∧ zv h' (now.1, zw_trn now.2.1 (zm_least now.2.1), now.2.2) (zv_push hist now) snap sv inp rep ∧ zc_F h h') := by
  have ok := (zv_open V).1
  have W := zv_txt V
  have h120 := ok.2.1
  unfold fB_rotateToLeast
  rw [zv_T0 V, cond_true, zv_r00 V, b1_s, zv_t V, b1_s, zw_z W, b1_s, zqo_ne _ _ (by omega) (by decide)]
  by_cases e : now.2.1.length = 0
  · refine Or.inl ⟨e, ?_⟩
    rw [decide_eq_true (by omega), Bool.not_true, cond_false]
  · refine Or.inr ⟨e, ?_⟩
    obtain ⟨h1, e1, V1, F1⟩ := zv_remember (N := N) V (by omega)
    have W1 := zv_txt V1
    have lt := (zm_leastM (l := now.2.1) (by omega)).1
    have hl := zw_lturn (N := N) W1 hN
    rw [zm_lT (show 0 < now.2.1.length by omega)] at hl
    obtain ⟨h2, e3, W2, F2⟩ := zw_turn (N := N) W1 (by omega) (c := zm_least now.2.1) (by omega)
    obtain ⟨V2, G2⟩ := zv_text V1 W2 F2 (zv_trnL ok.2.2.1 (by omega))
    refine ⟨h2, ?_, V2, zc_Ft F1 G2⟩
    rw [decide_eq_false (by omega), Bool.not_false, cond_true, zv_r01 V, b1_s, b1_s, e1, b2, zv_r00 V1, b1_s, zv_t V1, b1_s, hl, b2, zv_r00 V1, b1_s, zv_t V1, b1_s, e3, b2]
end ZVC
end
section
/-! THE CLASS'S CHANGES of the letters, of the shelf; undo; the snapshot. -/
theorem zm_sp {l : List Nat} {g : Nat} : ∀ c k, k ≤ c → zw_sp l g c k ≤ k ∧ (zw_sp l g c k = 0 ∨ l.getD (zw_sp l g c k - 1) 0 ≠ g) := by
  intro c
  induction c with
  | zero =>
    intro k h
    rw [zw_sp]
    exact ⟨Nat.le_refl k, Or.inl (by omega)⟩
  | succ c ih =>
    intro k h
    rw [zw_sp]
    by_cases e : k = 0
    · rw [if_pos e]
      exact ⟨Nat.zero_le k, Or.inl rfl⟩
    · rw [if_neg e]
      by_cases e2 : l.getD (k - 1) 0 = g
      · rw [if_pos e2]
        have := ih (k - 1) (by omega)
        exact ⟨by omega, this.2⟩
      · rw [if_neg e2]
        exact ⟨Nat.le_refl k, Or.inr e2⟩
/-- the letters before the last ones that are the greatest, m in all -/
def zm_nr (T : List Nat) (m g : Nat) : Nat := zw_sp (zw_xt T.length (m - T.length) T) g m (zw_xt T.length (m - T.length) T).length
theorem zm_X {T : List Nat} {m : Nat} (h0 : 0 < T.length) (hm : T.length ≤ m) : (zw_xt T.length (m - T.length) T).length = m ∧ ∀ j, j < m → (zw_xt T.length (m - T.length) T).getD j 0 = zm_c T j := by
  have hl := zw_xtl T.length (m - T.length) T
  refine ⟨by omega, fun j hj => zm_xt h0 _ T (Nat.le_refl _) (fun x hx => ?_) j (by omega)⟩
  unfold zm_c
  rw [Nat.mod_eq_of_lt hx]
/-- the next word's letters -/
theorem zm_nx {T : List Nat} {m g : Nat} (h0 : 0 < T.length) (hm : T.length ≤ m) : zm_nr T m g ≤ m ∧ (zw_nx T m g).length = zm_nr T m g ∧ (∀ j, j < zm_nr T m g → (zw_nx T m g).getD j 0 = if j = zm_nr T m g - 1 then zm_c T j + 1 else zm_c T j) ∧ (zm_nr T m g = 0 ∨ zm_c T (zm_nr T m g - 1) ≠ g) := by
  obtain ⟨x1, x2⟩ := zm_X h0 hm
  have s := zm_sp (l := zw_xt T.length (m - T.length) T) (g := g) m (zw_xt T.length (m - T.length) T).length (by omega)
  unfold zw_nx zw_up
  rw [if_neg (by omega)]
  change zm_nr T m g ≤ _ ∧ (zm_nr T m g = 0 ∨ (zw_xt T.length (m - T.length) T).getD (zm_nr T m g - 1) 0 ≠ g) at s
  change zm_nr T m g ≤ m ∧ (((zw_xt T.length (m - T.length) T).take (zm_nr T m g)).set (zm_nr T m g - 1) ((zw_xt T.length (m - T.length) T).getD (zm_nr T m g - 1) 0 + 1)).length = zm_nr T m g ∧ (∀ j, j < zm_nr T m g → (((zw_xt T.length (m - T.length) T).take (zm_nr T m g)).set (zm_nr T m g - 1) ((zw_xt T.length (m - T.length) T).getD (zm_nr T m g - 1) 0 + 1)).getD j 0 = if j = zm_nr T m g - 1 then zm_c T j + 1 else zm_c T j) ∧ (zm_nr T m g = 0 ∨ zm_c T (zm_nr T m g - 1) ≠ g)
  generalize zm_nr T m g = r at s ⊢
  have hl : ((zw_xt T.length (m - T.length) T).take r).length = r := by rw [List.length_take]; omega
  refine ⟨by omega, by rw [List.length_set, hl], ?_, ?_⟩
  · intro j hj
    rw [zm_gs _ _ _ _ (by omega)]
    by_cases e : j = r - 1
    · rw [if_pos e, if_pos e, ← e, x2 j (by omega)]
    · rw [if_neg e, if_neg e, List.getD_eq_getElem?_getD, List.getElem?_take_of_lt hj, ← List.getD_eq_getElem?_getD, x2 j (by omega)]
  · rcases s.2 with s | s
    · exact Or.inl s
    · by_cases e : r = 0
      · exact Or.inl e
      · rw [x2 _ (by omega)] at s
        exact Or.inr s
theorem zs_gC {S S' : Nat → List Nat} {K : Nat} (hS : ∀ j, j < K → S j = S' j) (m : Nat) : ∀ c i g, i + c ≤ K → (∀ j, g = some j → j < K) → zs_g S m c i g = zs_g S' m c i g := by
  intro c
  induction c with
  | zero => intro i g h1 h2; rfl
  | succ c ih =>
    intro i g h1 h2
    rw [zs_g, zs_g]
    have e : zs_st S i g = zs_st S' i g := by
      cases g with
      | none => rfl
      | some j => rw [zs_st, zs_st, hS i (by omega), hS j (h2 j rfl)]
    rw [e]
    refine ih (i + 1) _ (by omega) (fun j hj => ?_)
    split at hj
    · exact h2 j hj
    · cases g with
      | none =>
        cases hj
        omega
      | some x =>
        rw [zs_st] at hj
        have := h2 x rfl
        split at hj
        · cases hj
          omega
        · cases hj
          exact this
theorem zs_jnC {S S' : Nat → List Nat} {K : Nat} (hK : K ≤ 8) (hS : ∀ j, j < K → S j = S' j) : ∀ c m t, zs_jn S K c m t = zs_jn S' K c m t := by
  intro c
  induction c with
  | zero => intro m t; rfl
  | succ c ih =>
    intro m t
    rw [zs_jn, zs_jn, zs_gC hS m K 0 none (by omega) (fun j hj => by cases hj)]
    cases h : zs_g S' m K 0 none with
    | none => exact ih m t
    | some j =>
      have := (zs_gb S' m K 0 none (fun k hk => by cases hk) j h).1
      simp only
      rw [hS j (by omega)]
      exact ih _ _
theorem zs_jnL {S : Nat → List Nat} {K : Nat} {P : Nat → Prop} (hS : ∀ j, j < K → ∀ v ∈ S j, P v) : ∀ c m t, (∀ v ∈ t, P v) → ∀ v ∈ zs_jn S K c m t, P v := by
  intro c
  induction c with
  | zero => intro m t h; exact h
  | succ c ih =>
    intro m t h
    rw [zs_jn]
    cases e : zs_g S m K 0 none with
    | none => exact ih m t h
    | some j =>
      have := (zs_gb S m K 0 none (fun k hk => by cases hk) j e).1
      refine ih _ _ (fun v hv => ?_)
      rw [List.mem_append] at hv
      rcases hv with hv | hv
      · exact h v hv
      · exact hS j (by omega) v hv
/-- the kept words joined, from the greatest on -/
def zv_jn (Ks : List (List Nat)) : List Nat := zs_jn (fun i => Ks.getD i []) Ks.length Ks.length 0 []
/-- all letters are among the first M -/
def zv_fit (A : zA) (M : Nat) : Bool := (A.2.2.all fun w => w.all fun v => decide (v < 97 + M)) && A.2.1.all fun v => decide (v < 97 + M)
theorem zv_mget {S : Nat → List Nat} {Ks : List (List Nat)} (h : (List.range Ks.length).map S = Ks) {i : Nat} (hi : i < Ks.length) : S i = Ks.getD i [] := by
  have : Ks[i]? = some (S i) := by
    rw [← h, List.getElem?_map, List.getElem?_range hi]
    rfl
  rw [List.getD_eq_getElem?_getD, this]
  rfl
section ZVD
variable {N : Nat} {h : zH} {now snap : zA} {hist : List zA} {sv : Int} {inp : List Nat} {rep : zvP}
theorem zk_setLetters (V : zv h now hist snap sv inp rep) (hN : 3000 ≤ N) (x : Int) (hx : -2147483648 ≤ x ∧ x < 2147483648) : (¬ (2 ≤ x ∧ x ≤ 9) ∧ fB_setLetters N 0 (Int32.ofInt x) h = some (.inr 0, h)) ∨ ((2 ≤ x ∧ x ≤ 9) ∧ zv_fit now x.toNat = false ∧ fB_setLetters N 0 (Int32.ofInt x) h = some (.inr 1, h)) ∨ ((2 ≤ x ∧ x ≤ 9) ∧ zv_fit now x.toNat = true ∧ ∃ h', fB_setLetters N 0 (Int32.ofInt x) h = some (.inl (Int32.ofInt (now.1 : Int)), h') ∧ zv h' (x.toNat, now.2.1, now.2.2) (zv_push hist now) snap sv inp rep ∧ zc_F h h') := by
  obtain ⟨ok, S, H, hS, _⟩ := zv_open V
  unfold fB_setLetters
  rw [zv_T0 V, cond_true, zqo_lt _ _ hx (by decide), zqo_le _ _ hx (by decide)]
  by_cases e1 : x < 2
  · refine Or.inl ⟨by omega, ?_⟩
    rw [decide_eq_true e1, cond_true]
    rfl
  · rw [decide_eq_false e1, cond_false]
    by_cases e2 : x ≤ 9
    · refine Or.inr ?_
      obtain ⟨v, rfl⟩ : ∃ v : Nat, x = (v : Int) := ⟨x.toNat, by omega⟩
      have hf := zs_fits (N := N) H (by omega) (M := v) (by omega)
      have hfit : (((List.range now.2.2.length).all fun i => (S i).all fun u => decide (u < 97 + v)) && now.2.1.all fun u => decide (u < 97 + v)) = zv_fit now v := by
        unfold zv_fit
        rw [← hS, List.all_map, List.length_map, List.length_range]
        rfl
      rw [hfit] at hf
      rw [decide_eq_true e2, cond_true, zv_r00 V, b1_s, hf, b2]
      cases e3 : zv_fit now v with
      | false =>
        refine Or.inl ⟨by omega, e3, ?_⟩
        rw [cond_false, show z_cmp .ne (Int32.ofInt 0) (Int32.ofInt 0) = false from rfl, cond_false]
      | true =>
        refine Or.inr ⟨by omega, e3, ?_⟩
        obtain ⟨h1, e4, V1, F1⟩ := zv_remember (N := N) V (by omega)
        obtain ⟨ok1, S1, H1, hS1, cl⟩ := zv_open V1
        obtain ⟨h2, e5, H2, F2⟩ := zs_setL H1 (L' := v) (by omega)
        have e3' := e3
        unfold zv_fit at e3'
        rw [Bool.and_eq_true, List.all_eq_true, List.all_eq_true] at e3'
        obtain ⟨V2, G2⟩ := cl h2 _ _ _ _ H2 F2 ⟨by omega, ok.2.1, fun u hu => ⟨(ok.2.2.1 u hu).1, of_decide_eq_true (e3'.2 u hu)⟩, by rw [hS1]; exact ok.2.2.2.1, fun w hw => by
          rw [hS1] at hw
          have := ok.2.2.2.2 w hw
          exact ⟨this.1, this.2.1, fun u hu => ⟨(this.2.2 u hu).1, of_decide_eq_true (List.all_eq_true.mp (e3'.1 w hw) u hu)⟩⟩⟩
        rw [hS1] at V2
        refine ⟨h2, ?_, V2, zc_Ft F1 G2⟩
        rw [cond_true, show z_cmp .ne (Int32.ofInt 1) (Int32.ofInt 0) = true from rfl, cond_true, zv_r01 V, b1_s, zv_r00 V, b1_s, e4, b2, zv_r00 V1, b1_s, zs_L H1, b1_s, b1_s, e5, b1_s]
    · refine Or.inl ⟨by omega, ?_⟩
      rw [decide_eq_false e2, cond_false]
      rfl
theorem zk_nextLyndon (V : zv h now hist snap sv inp rep) (hN : 3000 ≤ N) (x : Int) (hx : -2147483648 ≤ x ∧ x < 2147483648) : (¬ (1 ≤ x ∧ x ≤ 120) ∧ fB_nextLyndon N 0 (Int32.ofInt x) h = some (.inr 0, h)) ∨ ((1 ≤ x ∧ x ≤ 120) ∧ zs_hn now.1 now.2.1 x = false ∧ fB_nextLyndon N 0 (Int32.ofInt x) h = some (.inr 1, h)) ∨ ((1 ≤ x ∧ x ≤ 120) ∧ zs_hn now.1 now.2.1 x = true ∧ ∃ h', fB_nextLyndon N 0 (Int32.ofInt x) h = some (.inl (Int32.ofInt ((zw_nx now.2.1 x.toNat (97 + now.1 - 1)).length : Int)), h') ∧ zv h' (now.1, zw_nx now.2.1 x.toNat (97 + now.1 - 1), now.2.2) (zv_push hist now) snap sv inp rep ∧ zc_F h h') := by
  obtain ⟨ok, S, H, hS, _⟩ := zv_open V
  have o1 := ok.1
  unfold fB_nextLyndon
  rw [zv_T0 V, cond_true, zqo_lt _ _ hx (by decide), zqo_le _ _ hx (by decide)]
  by_cases e1 : x < 1
  · refine Or.inl ⟨by omega, ?_⟩
    rw [decide_eq_true e1, cond_true]
    rfl
  · rw [decide_eq_false e1, cond_false]
    by_cases e2 : x ≤ 120
    · refine Or.inr ?_
      rw [decide_eq_true e2, cond_true, zv_r00 V, b1_s, zs_hasNext H (by omega) (by omega) x hx, b2]
      cases e3 : zs_hn now.1 now.2.1 x with
      | false =>
        refine Or.inl ⟨by omega, rfl, ?_⟩
        rw [cond_false, show z_cmp .ne (Int32.ofInt 0) (Int32.ofInt 0) = false from rfl, cond_false]
      | true =>
        refine Or.inr ⟨by omega, rfl, ?_⟩
        obtain ⟨v, rfl⟩ : ∃ v : Nat, x = (v : Int) := ⟨x.toNat, by omega⟩
        unfold zs_hn at e3
        rw [Bool.and_eq_true, Bool.and_eq_true] at e3
        have l1 := of_decide_eq_true e3.1
        have l2 := of_decide_eq_true e3.2.1
        have x1 := zm_nx (T := now.2.1) (m := v) (g := 97 + now.1 - 1) l2.1 (by omega)
        obtain ⟨h1, e4, V1, F1⟩ := zv_remember (N := N) V (by omega)
        obtain ⟨ok1, S1, H1, hS1, cl⟩ := zv_open V1
        have W1 := zv_txt V1
        obtain ⟨h2, e5, W2, F2⟩ := zw_step (N := N) W1 (by omega) (m := v) (g := 97 + now.1 - 1) (by omega) (by omega) (by omega) (fun u hu => by
          have := ok.2.2.1 u hu
          omega)
        obtain ⟨V2, G2⟩ := zv_text V1 W2 F2 (zm_mem (P := fun u => 97 ≤ u ∧ u < 97 + now.1) (fun j hj => by
          rw [x1.2.1] at hj
          rw [x1.2.2.1 j hj]
          have a1 := zm_cget (P := fun u => 97 ≤ u ∧ u < 97 + now.1) ok.2.2.1 l2.1 j
          by_cases e6 : j = zm_nr now.2.1 v (97 + now.1 - 1) - 1
          · rw [if_pos e6]
            rcases x1.2.2.2 with x2 | x2
            · omega
            · rw [← e6] at x2
              omega
          · rw [if_neg e6]
            exact a1))
        refine ⟨h2, ?_, V2, zc_Ft F1 G2⟩
        rw [cond_true, show z_cmp .ne (Int32.ofInt 1) (Int32.ofInt 0) = true from rfl, cond_true, zv_r01 V, b1_s, zv_r00 V, b1_s, e4, b2, zv_r00 V1, b1_s, zv_t V1, b1_s, b1_s, zs_greatest H1, b2, zw_sub, show ((97 + now.1 : Nat) : Int) - 1 = ((97 + now.1 - 1 : Nat) : Int) by omega, e5, b2, zv_r00 V2, b1_s, zv_t V2, b1_s, zw_z W2, b1_s]
        rfl
    · refine Or.inl ⟨by omega, ?_⟩
      rw [decide_eq_false e2, cond_false]
      rfl
end ZVD
end
section
/-! THE CLASS'S CHANGES of the shelf; undo; the snapshot. -/
theorem zv_snoc {S : Nat → List Nat} {Ks : List (List Nat)} {w : List Nat} (h : (List.range Ks.length).map S = Ks) : (List.range (Ks.length + 1)).map (fun j => if j = Ks.length then w else S j) = Ks ++ [w] := by
  rw [List.range_succ, List.map_append]
  congr 1
  · rw [← h]
    rw [List.length_map, List.length_range]
    refine List.map_congr_left (fun j hj => ?_)
    have := List.mem_range.mp hj
    rw [if_neg (by omega)]
  · show [if Ks.length = Ks.length then w else S Ks.length] = [w]
    rw [if_pos rfl]
theorem zv_erase {S S' : Nat → List Nat} {Ks : List (List Nat)} {k : Nat} (h : (List.range Ks.length).map S = Ks) (hk : k < Ks.length) (h' : ∀ j, j < Ks.length - 1 → S' j = if k ≤ j then S (j + 1) else S j) : (List.range (Ks.length - 1)).map S' = Ks.eraseIdx k := by
  apply List.ext_getElem?
  intro i
  rw [List.getElem?_eraseIdx, List.getElem?_map]
  have hg : ∀ x, x < Ks.length → Ks[x]? = some (S x) := by
    intro x hx
    rw [← h, List.getElem?_map, List.getElem?_range hx]
    rfl
  by_cases e : i < Ks.length - 1
  · rw [List.getElem?_range e]
    show some (S' i) = _
    rw [h' i e]
    by_cases e2 : i < k
    · rw [if_pos e2, if_neg (by omega), hg i (by omega)]
    · rw [if_neg e2, if_pos (by omega), hg (i + 1) (by omega)]
  · rw [List.getElem?_eq_none (by rw [List.length_range]; omega)]
    by_cases e2 : i < k
    · omega
    · rw [if_neg e2, List.getElem?_eq_none (by omega)]
      rfl
section ZVE
variable {N : Nat} {h : zH} {now snap : zA} {hist : List zA} {sv : Int} {inp : List Nat} {rep : zvP}
theorem zv_checked (V : zv h now hist snap sv inp rep) (hN : 3000 ≤ N) (x : Int) (hx : -2147483648 ≤ x ∧ x < 2147483648) : fB_checkedBegin N 0 (Int32.ofInt x) h = if zw_bF now.2.1 x = -1 then some (.inr 2, h) else some (.inl (Int32.ofInt (zw_bF now.2.1 x)), h) := by
  obtain ⟨sL, sT, sS, sK, wd, nu, hs, C, v1, _⟩ := V
  have := zq_checked (N := N) C hN x hx
  rw [← v1]
  exact this
/-- a part of the text kept -/
theorem zv_keep (V : zv h now hist snap sv inp rep) (hN : 3000 ≤ N) (a c : Nat) (h1 : a + c ≤ now.2.1.length) (h2 : 1 ≤ c ∧ c ≤ 40) (h3 : now.2.2.length < 8) : ∃ h', fS_keep N 1 (1 + 1) (Int32.ofInt (a : Int)) (Int32.ofInt ((a + c : Nat) : Int)) h = some ((), h') ∧ zv h' (now.1, now.2.1, now.2.2 ++ [(now.2.1.drop a).take c]) hist snap sv inp rep ∧ zc_F h h' ∧ fI h' 1 3 3 = some (Int32.ofInt ((now.2.2.length + 1 : Nat) : Int)) := by
  obtain ⟨ok, S, H, hS, cl⟩ := zv_open V
  obtain ⟨h4, e4, H4, F4⟩ := zs_keepP (N := N) H h3 H.2.2.2.1 (fun i hi => by unfold zw_d; omega) (by omega) a c h1 (by omega)
  obtain ⟨V4, G4⟩ := cl h4 _ _ _ _ H4 F4 ⟨ok.1, ok.2.1, ok.2.2.1, by rw [zv_snoc hS, List.length_append]; show now.2.2.length + 1 ≤ 8; omega, fun w hw => by
    rw [zv_snoc hS, List.mem_append, List.mem_singleton] at hw
    rcases hw with hw | hw
    · exact ok.2.2.2.2 w hw
    · rw [hw]
      have hl : ((now.2.1.drop a).take c).length = c := by rw [List.length_take, List.length_drop]; omega
      exact ⟨by omega, by omega, fun v hv => ok.2.2.1 v (List.mem_of_mem_drop (List.mem_of_mem_take hv))⟩⟩
  rw [zv_snoc hS] at V4
  exact ⟨h4, e4, V4, G4, zs_K H4⟩
theorem zk_keepText (V : zv h now hist snap sv inp rep) (hN : 3000 ≤ N) : (¬ (1 ≤ now.2.1.length ∧ now.2.1.length ≤ 40 ∧ now.2.2.length < 8) ∧ fB_keepText N 0 h = some (.inr 1, h)) ∨ ((1 ≤ now.2.1.length ∧ now.2.1.length ≤ 40 ∧ now.2.2.length < 8) ∧ ∃ h', fB_keepText N 0 h = some (.inl (Int32.ofInt ((now.2.2.length + 1 : Nat) : Int)), h') ∧ zv h' (now.1, now.2.1, now.2.2 ++ [now.2.1]) (zv_push hist now) snap sv inp rep ∧ zc_F h h') := by
  obtain ⟨ok, S, H, hS, _⟩ := zv_open V
  have h120 := ok.2.1
  have W := zv_txt V
  unfold fB_keepText
  rw [zv_T0 V, cond_true, zv_r00 V, b1_s, b1_s, zv_t V, b1_s, zw_z W, b1_s, zs_canKeep H _ (by omega), b2]
  by_cases e : 1 ≤ now.2.1.length ∧ now.2.1.length ≤ 40 ∧ now.2.2.length < 8
  · refine Or.inr ⟨e, ?_⟩
    obtain ⟨h1, e1, V1, F1⟩ := zv_remember (N := N) V (by omega)
    obtain ⟨h2, e2, V2, F2, k2⟩ := zv_keep (N := N) V1 hN 0 now.2.1.length (by omega) (by omega) e.2.2
    rw [List.drop_zero, List.take_of_length_le (Nat.le_refl _)] at V2
    rw [Nat.zero_add] at e2
    refine ⟨h2, ?_, V2, zc_Ft F1 F2⟩
    rw [decide_eq_true (by omega), cond_true, show z_cmp .ne (Int32.ofInt 1) (Int32.ofInt 0) = true from rfl, cond_true, zv_r01 V, b1_s, zv_r00 V, b1_s, e1, b2, zv_r00 V1, b1_s, b1_s, zv_t V1, b1_s, b1_s, zv_t V1, b1_s, zw_z (zv_txt V1), b1_s, show Int32.ofInt 0 = Int32.ofInt ((0 : Nat) : Int) from rfl, e2, b2, zv_r00 V2, b1_s, k2, b1_s]
  · refine Or.inl ⟨e, ?_⟩
    rw [decide_eq_false (by omega), cond_false, show z_cmp .ne (Int32.ofInt 0) (Int32.ofInt 0) = false from rfl, cond_false]
theorem zk_keepFactor (V : zv h now hist snap sv inp rep) (hN : 3000 ≤ N) (x : Int) (hx : -2147483648 ≤ x ∧ x < 2147483648) : (zw_bF now.2.1 x = -1 ∧ fB_keepFactor N 0 (Int32.ofInt x) h = some (.inr 2, h)) ∨ ∃ b : Nat, zw_bF now.2.1 x = (b : Int) ∧ b < now.2.1.length ∧ ((¬ (zw_lE now.2.1 b - b ≤ 40 ∧ now.2.2.length < 8) ∧ fB_keepFactor N 0 (Int32.ofInt x) h = some (.inr 1, h)) ∨ ((zw_lE now.2.1 b - b ≤ 40 ∧ now.2.2.length < 8) ∧ ∃ h', fB_keepFactor N 0 (Int32.ofInt x) h = some (.inl (Int32.ofInt ((now.2.2.length + 1 : Nat) : Int)), h') ∧ zv h' (now.1, now.2.1, now.2.2 ++ [zw_p now.2.1 b (zw_lE now.2.1 b)]) (zv_push hist now) snap sv inp rep ∧ zc_F h h')) := by
  obtain ⟨ok, S, H, hS, _⟩ := zv_open V
  have h120 := ok.2.1
  have W := zv_txt V
  have bb := zw_bFb now.2.1 x
  unfold fB_keepFactor
  rw [zv_T0 V, cond_true, zv_checked V hN x hx]
  by_cases e0 : zw_bF now.2.1 x = -1
  · refine Or.inl ⟨e0, ?_⟩
    rw [if_pos e0]
    rfl
  · obtain ⟨b, hb⟩ : ∃ b : Nat, zw_bF now.2.1 x = (b : Int) := ⟨(zw_bF now.2.1 x).toNat, by omega⟩
    rw [if_neg e0]
    rw [hb] at bb ⊢
    have hbl : b < now.2.1.length := by omega
    have le := zw_lEb hbl
    refine Or.inr ⟨b, rfl, hbl, ?_⟩
    show _ ∧ b1 (fR h 0 0 0) _ = _ ∨ _
    have pre : ∀ g : Int32 → zH → Option ((Int32 ⊕ Nat) × zH), (b1 (fR h 0 0 0) fun x3 => b1 (fR h x3 3 1) fun x4 => b2 (fW_lyndonEnd N x4 (Int32.ofInt (b : Int)) h) g) = g (Int32.ofInt ((zw_lE now.2.1 b : Nat) : Int)) h := by
      intro g
      rw [zv_r00 V, b1_s, zv_t V, b1_s, zw_lyn W (by omega) hbl, b2]
    by_cases e : zw_lE now.2.1 b - b ≤ 40 ∧ now.2.2.length < 8
    · refine Or.inr ⟨e, ?_⟩
      obtain ⟨h1, e1, V1, F1⟩ := zv_remember (N := N) V (by omega)
      obtain ⟨h2, e2, V2, F2, k2⟩ := zv_keep (N := N) V1 hN b (zw_lE now.2.1 b - b) (by omega) (by omega) e.2
      rw [show b + (zw_lE now.2.1 b - b) = zw_lE now.2.1 b by omega] at e2
      refine ⟨h2, ?_, V2, zc_Ft F1 F2⟩
      refine (pre _).trans ?_
      rw [zv_r00 V, b1_s, zw_sub, zs_canKeep H _ (by omega), b2, decide_eq_true (by omega), cond_true, show z_cmp .ne (Int32.ofInt 1) (Int32.ofInt 0) = true from rfl, cond_true, zv_r01 V, b1_s, zv_r00 V, b1_s, e1, b2, zv_r00 V1, b1_s, b1_s, zv_t V1, b1_s, e2, b2, zv_r00 V2, b1_s, k2, b1_s]
    · refine Or.inl ⟨e, ?_⟩
      refine (pre _).trans ?_
      rw [zv_r00 V, b1_s, zw_sub, zs_canKeep H _ (by omega), b2, decide_eq_false (by omega), cond_false, show z_cmp .ne (Int32.ofInt 0) (Int32.ofInt 0) = false from rfl, cond_false]
theorem zk_removeKept (V : zv h now hist snap sv inp rep) (hN : 3000 ≤ N) (x : Int) (hx : -2147483648 ≤ x ∧ x < 2147483648) : (¬ (0 ≤ x ∧ x < (now.2.2.length : Int)) ∧ fB_removeKept N 0 (Int32.ofInt x) h = some (.inr 2, h)) ∨ ((0 ≤ x ∧ x < (now.2.2.length : Int)) ∧ ∃ h', fB_removeKept N 0 (Int32.ofInt x) h = some (.inl (Int32.ofInt ((now.2.2.length - 1 : Nat) : Int)), h') ∧ zv h' (now.1, now.2.1, now.2.2.eraseIdx x.toNat) (zv_push hist now) snap sv inp rep ∧ zc_F h h') := by
  obtain ⟨ok, S, H, hS, _⟩ := zv_open V
  have h8 := ok.2.2.2.1
  unfold fB_removeKept
  rw [zv_T0 V, cond_true, zv_r00 V, b1_s, zs_at H x hx, b2]
  by_cases e : 0 ≤ x ∧ x < (now.2.2.length : Int)
  · refine Or.inr ⟨e, ?_⟩
    obtain ⟨k, rfl⟩ : ∃ k : Nat, x = (k : Int) := ⟨x.toNat, by omega⟩
    obtain ⟨h1, e1, V1, F1⟩ := zv_remember (N := N) V (by omega)
    obtain ⟨ok1, S1, H1, hS1, cl⟩ := zv_open V1
    obtain ⟨h2, S2, e2, H2, r2, F2⟩ := zs_take (N := N) (by omega) H1 (k := k) (by omega)
    have em := zv_erase hS1 (show k < now.2.2.length by omega) r2
    obtain ⟨V2, G2⟩ := cl h2 _ _ _ _ H2 F2 ⟨ok.1, ok.2.1, ok.2.2.1, by rw [List.length_map, List.length_range]; omega, fun w hw => by
      rw [em] at hw
      exact ok.2.2.2.2 w (List.mem_of_mem_eraseIdx hw)⟩
    rw [em] at V2
    refine ⟨h2, ?_, V2, zc_Ft F1 G2⟩
    rw [if_pos e]
    show cond (fX h (1 + 4 + 2 * k)) _ none = _
    rw [zs_X H (by omega), cond_true, zv_r01 V, b1_s, zv_r00 V, b1_s, e1, b2, zv_r00 V1, b1_s, e2, b2, zv_r00 V2, b1_s, zs_K H2, b1_s]
  · refine Or.inl ⟨e, ?_⟩
    rw [if_neg e]
theorem zv_sum {S : Nat → List Nat} {Ks : List (List Nat)} (h : (List.range Ks.length).map S = Ks) : ∀ c i, i + c = Ks.length → zs_us S 0 c i = ((Ks.drop i).map List.length).sum := by
  intro c
  induction c with
  | zero =>
    intro i hi
    rw [List.drop_of_length_le (by omega)]
    rfl
  | succ c ih =>
    intro i hi
    have hg : Ks[i]? = some (S i) := by
      rw [← h, List.getElem?_map, List.getElem?_range (by omega)]
      rfl
    obtain ⟨h1, h2⟩ := List.getElem?_eq_some_iff.mp hg
    rw [zs_us, if_neg (by rw [Nat.zero_testBit]; decide), ih (i + 1) (by omega), List.drop_eq_getElem_cons h1, List.map_cons, List.sum_cons, h2]
theorem zk_joinKept (V : zv h now hist snap sv inp rep) (hN : 3000 ≤ N) : (¬ (0 < now.2.2.length ∧ (now.2.2.map List.length).sum ≤ 120) ∧ fB_joinKept N 0 h = some (.inr 1, h)) ∨ ((0 < now.2.2.length ∧ (now.2.2.map List.length).sum ≤ 120) ∧ ∃ h', fB_joinKept N 0 h = some (.inl (Int32.ofInt ((zv_jn now.2.2).length : Int)), h') ∧ zv h' (now.1, zv_jn now.2.2, now.2.2) (zv_push hist now) snap sv inp rep ∧ zc_F h h') := by
  obtain ⟨ok, S, H, hS, _⟩ := zv_open V
  have h8 := ok.2.2.2.1
  have hs := zv_sum hS now.2.2.length 0 (by omega)
  rw [List.drop_zero] at hs
  unfold fB_joinKept
  rw [zv_T0 V, cond_true, zv_r00 V, b1_s, zs_canJoin (by omega) H, b2, hs]
  by_cases e : 0 < now.2.2.length ∧ (now.2.2.map List.length).sum ≤ 120
  · refine Or.inr ⟨e, ?_⟩
    obtain ⟨h1, e1, V1, F1⟩ := zv_remember (N := N) V (by omega)
    obtain ⟨ok1, S1, H1, hS1, cl⟩ := zv_open V1
    have hs1 := zv_sum hS1 now.2.2.length 0 (by omega)
    rw [List.drop_zero] at hs1
    obtain ⟨h2, e2, H2, F2⟩ := zs_join (N := N) (by omega) H1 (by rw [hs1]; exact e.2)
    have ej : zs_jn S1 now.2.2.length now.2.2.length 0 [] = zv_jn now.2.2 := zs_jnC h8 (fun j hj => zv_mget hS1 hj) _ _ _
    rw [ej] at H2
    obtain ⟨V2, G2⟩ := cl h2 _ _ _ _ H2 F2 ⟨ok.1, H2.2.2.2.1.2.2.2.1, by
      refine zs_jnL (P := fun v => 97 ≤ v ∧ v < 97 + now.1) (fun j hj v hv => ?_) _ _ _ (fun v hv => by cases hv)
      have : now.2.2.getD j [] ∈ now.2.2 := by
        rw [List.getD_eq_getElem?_getD, List.getElem?_eq_getElem hj]
        exact List.getElem_mem hj
      exact (ok.2.2.2.2 _ this).2.2 v hv, by rw [hS1]; exact h8, by rw [hS1]; exact ok.2.2.2.2⟩
    rw [hS1] at V2
    refine ⟨h2, ?_, V2, zc_Ft F1 G2⟩
    rw [decide_eq_true e, cond_true, show z_cmp .ne (Int32.ofInt 1) (Int32.ofInt 0) = true from rfl, cond_true, zv_r01 V, b1_s, zv_r00 V, b1_s, e1, b2, zv_r00 V1, b1_s, e2, b2, zv_r00 V2, b1_s, zs_t H2, b1_s, zw_z H2.2.2.2.1, b1_s]
  · refine Or.inl ⟨e, ?_⟩
    rw [decide_eq_false e, cond_false, show z_cmp .ne (Int32.ofInt 0) (Int32.ofInt 0) = false from rfl, cond_false]
end ZVE
end
section
/-! THE CLASS'S undo, snapshot, input. -/
theorem zw_lowb (x : Int32) : (x &&& Int32.ofInt 255).toInt = (x.toInt % 256) := by
  have h1 : (x &&& Int32.ofInt 255).toBitVec = x.toBitVec &&& 255#32 := rfl
  show (x &&& Int32.ofInt 255).toBitVec.toInt = x.toBitVec.toInt % 256
  rw [h1]
  have h2 : (x.toBitVec &&& 255#32).toNat = x.toBitVec.toNat % 256 := by
    rw [BitVec.toNat_and]
    exact Nat.and_two_pow_sub_one_eq_mod x.toBitVec.toNat 8
  have h3 := x.toBitVec.isLt
  rw [BitVec.toInt_eq_toNat_cond, BitVec.toInt_eq_toNat_cond, h2]
  split <;> split <;> omega
/-- the lowest byte -/
def zw_lo (x : Int32) : Nat := (x.toInt % 256).toNat
theorem zw_lo256 (x : Int32) : zw_lo x < 256 := by
  unfold zw_lo
  omega
theorem zw_loand (x : Int32) : x &&& Int32.ofInt 255 = Int32.ofInt (zw_lo x : Int) := by
  apply Int32.toInt_inj.mp
  rw [zw_lowb]
  unfold zw_lo
  rw [zqo_i _ (by omega)]
  omega
theorem zw_lob (x : Int32) : vp_nar .byte x.toInt8.toInt32 = zw_b (zw_lo x) := by
  unfold zw_b
  congr 2
  have h1 : x.toInt8.toInt = (x.toInt).bmod 256 := Int32.toInt_toInt8 x
  apply Int8.toInt_inj.mp
  rw [h1, Int32.toInt_toInt8]
  have : (Int32.ofInt (zw_lo x : Int)).toInt = (zw_lo x : Int) := zqo_i _ (by have := zw_lo256 x; omega)
  rw [this]
  unfold zw_lo
  rw [show (((x.toInt % 256).toNat : Nat) : Int) = x.toInt % 256 by omega]
  exact (Int.emod_bmod x.toInt 256).symm
section ZVI
variable {N : Nat} {h : zH} {now snap : zA} {hist : List zA} {sv : Int} {inp : List Nat} {rep : zvP}
theorem zk_undo (V : zv h now hist snap sv inp rep) (hN : 3000 ≤ N) : (hist = [] ∧ fB_undo N 0 h = some (Int32.ofInt (-1), h)) ∨ (∃ A r, hist = r ++ [A] ∧ ∃ h', fB_undo N 0 h = some (Int32.ofInt (r.length : Int), h') ∧ zv h' A r snap sv inp rep ∧ zc_F h h') := by
  have V0 := V
  obtain ⟨sL, sT, sS, sK, wd, nu, hs, C, v1, v2, v3, v4, v5, v6, v7, v8, v9⟩ := V
  unfold fB_undo
  rw [zc_T0 C, cond_true, zc_r01 C, b1_s, zc_r00 C, b1_s]
  rcases zc_back (N := N) C (by omega) v2 v3 with ⟨b1', b2'⟩ | ⟨b1', h1, S1, e1, C1, r1, F1⟩
  · refine Or.inl ⟨List.length_eq_zero_iff.mp b1', ?_⟩
    rw [b2', b2, show z_cmp .eq (Int32.ofInt 0) (Int32.ofInt 0) = true from rfl, cond_true]
    rfl
  · refine Or.inr ?_
    have hne : hist ≠ [] := fun x => by rw [x] at b1'; exact absurd b1' (by decide)
    have hl : (hist.dropLast).length = hist.length - 1 := List.length_dropLast
    refine ⟨hist.getLast hne, hist.dropLast, (List.dropLast_concat_getLast hne).symm, h1, ?_, ⟨_, _, _, _, _, _, _, C1, ?_, ?_, ?_, ?_, ?_, ?_, v7, ⟨v8.1, (zc_un nu _ (show (2 : Nat) ≠ 1 by decide)).trans v8.2.1, (zc_un nu _ (show (3 : Nat) ≠ 1 by decide)).trans v8.2.2⟩, ?_⟩, F1⟩
    · rw [e1, b2, show z_cmp .eq (Int32.ofInt 1) (Int32.ofInt 0) = false from rfl, cond_false, zc_r01 C1, b1_s, zc_cnt C1, b1_s, zc_us, hl]
      rfl
    · have a1 := v4 (hist.length - 1) (by omega)
      rw [List.getLast_eq_getElem]
      have a2 : hist[hist.length - 1]? = some (hist[hist.length - 1]'(by omega)) := List.getElem?_eq_getElem _
      rw [a2] at a1
      rw [Option.some.inj a1]
      refine zv_aeq (zc_us _ _ _) (zc_us _ _ _) (zc_us _ _ _) (fun j hj => ?_)
      rw [zc_us]
      exact r1 j hj
    · rw [zc_us, hl]
    · omega
    · intro i hi
      rw [hl] at hi
      have hn : hs i ≠ 1 := by
        obtain ⟨k, k1, k2⟩ := C.2.2.2.2.2.2.2.2.1 i (by omega)
        omega
      rw [List.getElem?_dropLast, if_pos hi, v4 i (by omega)]
      congr 1
      unfold zv_a
      rw [zc_un _ _ hn, zc_un _ _ hn, zc_un _ _ hn, zc_un _ _ hn]
    · rw [← v5]
      rfl
    · rw [← v6]
      rfl
    · intro q hq
      by_cases e : q = 1
      · have : zv_a (zc_u sL 1 (sL (hs (hist.length - 1)))) (zc_u sT 1 (sT (hs (hist.length - 1)))) (zc_u sS 1 S1) (zc_u sK 1 (sK (hs (hist.length - 1)))) q = zv_a sL sT sS sK (hs (hist.length - 1)) := by
          rw [e]
          refine zv_aeq (zc_us _ _ _) (zc_us _ _ _) (zc_us _ _ _) (fun j hj => ?_)
          rw [zc_us]
          exact r1 j hj
        rw [this]
        exact v9 _ (zc_hq C (by omega))
      · have := v9 q hq
        unfold zv_a at this ⊢
        rw [zc_un _ _ e, zc_un _ _ e, zc_un _ _ e, zc_un _ _ e]
        exact this
theorem zk_saveSnapshot (V : zv h now hist snap sv inp rep) (hN : 3000 ≤ N) : ∃ h', fB_saveSnapshot N 0 h = some (Int32.ofInt (now.2.1.length : Int), h') ∧ zv h' now hist now 1 inp rep ∧ zc_F h h' := by
  obtain ⟨sL, sT, sS, sK, wd, nu, hs, C, v1, v2, v3, v4, v5, v6, v7, v8, v9⟩ := V
  have q183 : zc_Q 183 := Or.inr (Or.inl ⟨8, by decide, by decide⟩)
  obtain ⟨h1, S1, e1, C1, r1, F1⟩ := zc_copy (N := N) C (by omega) q183 (Or.inl rfl) (by decide)
  obtain ⟨h2, e2, C2, F2⟩ := zc_saved C1 1
  have ea : zv_a (zc_u sL 183 (sL 1)) (zc_u sT 183 (sT 1)) (zc_u sS 183 S1) (zc_u sK 183 (sK 1)) 183 = now := by
    rw [← v1]
    refine zv_aeq (zc_us _ _ _) (zc_us _ _ _) (zc_us _ _ _) (fun j hj => ?_)
    rw [zc_us]
    exact r1 j hj
  refine ⟨h2, ?_, ⟨_, _, _, _, _, _, _, C2, ?_, v2, v3, ?_, ea, rfl, v7, ⟨v8.1, (zc_un nu _ (show (2 : Nat) ≠ 0 by decide)).trans v8.2.1, (zc_un nu _ (show (3 : Nat) ≠ 0 by decide)).trans v8.2.2⟩, ?_⟩, zc_Ft F1 F2⟩
  · unfold fB_saveSnapshot
    rw [zc_T0 C, cond_true, zc_r02 C, b1_s, zc_r00 C, b1_s, e1, b2, e2, b1_s, zc_r00 C2, b1_s, zs_t (zc_now C2), b1_s, zw_z (zc_txt C2), b1_s, ← v1]
    rfl
  · rw [← v1]
    rfl
  · intro i hi
    have hn : hs i ≠ 183 := by
      obtain ⟨k, k1, k2⟩ := C.2.2.2.2.2.2.2.2.1 i (by omega)
      omega
    rw [v4 i hi]
    congr 1
    unfold zv_a
    rw [zc_un _ _ hn, zc_un _ _ hn, zc_un _ _ hn, zc_un _ _ hn]
  · intro q hq
    by_cases e : q = 183
    · rw [e, ea, ← v1]
      exact v9 1 (Or.inl rfl)
    · have := v9 q hq
      unfold zv_a at this ⊢
      rw [zc_un _ _ e, zc_un _ _ e, zc_un _ _ e, zc_un _ _ e]
      exact this
theorem zk_restoreSnapshot (V : zv h now hist snap sv inp rep) (hN : 3000 ≤ N) (hsv : sv = 0 ∨ sv = 1) : (sv = 0 ∧ fB_restoreSnapshot N 0 h = some (.inr 3, h)) ∨ (sv = 1 ∧ ∃ h', fB_restoreSnapshot N 0 h = some (.inl (Int32.ofInt (snap.2.1.length : Int)), h') ∧ zv h' snap [] snap sv inp rep ∧ zc_F h h') := by
  obtain ⟨sL, sT, sS, sK, wd, nu, hs, C, v1, v2, v3, v4, v5, v6, v7, v8, v9⟩ := V
  have q183 : zc_Q 183 := Or.inr (Or.inl ⟨8, by decide, by decide⟩)
  unfold fB_restoreSnapshot
  rw [zc_T0 C, cond_true, zc_i03 C, b1_s, v6]
  rcases hsv with e | e
  · refine Or.inl ⟨e, ?_⟩
    rw [e, show z_cmp .ne (Int32.ofInt 0) (Int32.ofInt 0) = false from rfl, cond_false]
  · refine Or.inr ⟨e, ?_⟩
    obtain ⟨h1, S1, e1, C1, r1, F1⟩ := zc_copy (N := N) C (by omega) (Or.inl rfl) q183 (by decide)
    obtain ⟨h2, e2, C2, F2⟩ := zc_many C1 0
    have ea : zv_a (zc_u sL 1 (sL 183)) (zc_u sT 1 (sT 183)) (zc_u sS 1 S1) (zc_u sK 1 (sK 183)) 1 = snap := by
      rw [← v5]
      refine zv_aeq (zc_us _ _ _) (zc_us _ _ _) (zc_us _ _ _) (fun j hj => ?_)
      rw [zc_us]
      exact r1 j hj
    refine ⟨h2, ?_, ⟨_, _, _, _, _, _, _, C2, ea, rfl, Nat.zero_le 8, fun i hi => absurd hi (Nat.not_lt_zero i), ?_, v6, v7, ⟨v8.1, (zc_un nu _ (show (2 : Nat) ≠ 1 by decide)).trans v8.2.1, (zc_un nu _ (show (3 : Nat) ≠ 1 by decide)).trans v8.2.2⟩, ?_⟩, zc_Ft F1 F2⟩
    · rw [e, show z_cmp .ne (Int32.ofInt 1) (Int32.ofInt 0) = true from rfl, cond_true, zc_r00 C, b1_s, zc_r02 C, b1_s, e1, b2, zc_r01 C1, b1_s, e2, b1_s, zc_r00 C2, b1_s, zs_t (zc_now C2), b1_s, zw_z (zc_txt C2), b1_s, ← v5]
      rfl
    · rw [← v5]
      rfl
    · intro q hq
      by_cases e : q = 1
      · rw [e, ea, ← v5]
        exact v9 183 q183
      · have := v9 q hq
        unfold zv_a at this ⊢
        rw [zc_un _ _ e, zc_un _ _ e, zc_un _ _ e, zc_un _ _ e]
        exact this
/-- the input -/
theorem zv_inp (V : zv h now hist snap sv inp rep) : zw_W h 204 600 inp ∧ ∀ h' l, zw_W h' 204 600 l → zw_F h h' 204 → zv h' now hist snap sv l rep ∧ zc_F h h' := by
  obtain ⟨sL, sT, sS, sK, wd, nu, hs, C, v1, v2, v3, v4, v5, v6, v7, v8, v9⟩ := V
  have W := zc_wd C (o := 204) (n := 600) (Or.inl ⟨rfl, rfl⟩)
  rw [v7] at W
  refine ⟨W, fun h' l W' F => ?_⟩
  obtain ⟨C2, F2⟩ := zc_word C (Or.inl ⟨rfl, rfl⟩) W' F
  exact ⟨⟨_, _, _, _, _, _, _, C2, v1, v2, v3, v4, v5, v6, zc_us _ _ _, ⟨by rw [zc_un _ _ (show (228 : Nat) ≠ 204 by decide)]; exact v8.1, v8.2⟩, v9⟩, F2⟩
theorem zk_truncateInput (V : zv h now hist snap sv inp rep) (hN : 3000 ≤ N) (x : Int) (hx : -2147483648 ≤ x ∧ x < 2147483648) : (¬ (0 ≤ x ∧ x ≤ (inp.length : Int)) ∧ fB_truncateInput N 0 (Int32.ofInt x) h = some (.inr 0, h)) ∨ ((0 ≤ x ∧ x ≤ (inp.length : Int)) ∧ ∃ h', fB_truncateInput N 0 (Int32.ofInt x) h = some (.inl (Int32.ofInt x), h') ∧ zv h' now hist snap sv (inp.take x.toNat) rep ∧ zc_F h h') := by
  obtain ⟨W, cl⟩ := zv_inp V
  have hl := W.2.2.2.1
  unfold fB_truncateInput
  rw [zv_T0 V, cond_true, zqo_lt _ _ hx (by decide), zv_r04 V, b1_s, zv_r20 V, b1_s, zw_z W, b1_s, zqo_le _ _ hx (by omega)]
  by_cases e1 : x < 0
  · refine Or.inl ⟨by omega, ?_⟩
    rw [decide_eq_true e1, cond_true]
    rfl
  · rw [decide_eq_false e1, cond_false]
    by_cases e2 : x ≤ (inp.length : Int)
    · refine Or.inr ⟨by omega, ?_⟩
      obtain ⟨h1, e3, W1, F1⟩ := zw_shorten (N := N) W x hx
      rw [if_pos (by omega)] at W1
      obtain ⟨V1, G1⟩ := cl h1 _ W1 F1
      refine ⟨h1, ?_, V1, G1⟩
      rw [decide_eq_true e2, cond_true, b1_s, zv_r20 V, b1_s, e3, b2]
    · refine Or.inl ⟨by omega, ?_⟩
      rw [decide_eq_false e2, cond_false]
      rfl
theorem zw_addx {q n : Nat} {l : List Nat} (H : zw_W h q n l) (x : Int32) (hn : l.length < n) : ∃ h', fW_add N q x h = some ((), h') ∧ zw_W h' q n (l ++ [zw_lo x]) ∧ zw_F h h' q := by
  have e : fW_add N q x h = fW_add N q (Int32.ofInt ((zw_lo x : Nat) : Int)) h := by
    unfold fW_add
    rw [zw_lob x]
    rfl
  rw [e]
  exact zw_addN H (zw_lo x) (zw_lo256 x) hn
/-- the four bytes of a number -/
def zv_four (x : Int32) : List Nat := [zw_lo (x >>> (Int32.ofInt 24 &&& 31)), zw_lo (x >>> (Int32.ofInt 16 &&& 31)), zw_lo (x >>> (Int32.ofInt 8 &&& 31)), zw_lo (x >>> (Int32.ofInt 0 &&& 31))]
theorem zw_four {q n : Nat} {l : List Nat} (H : zw_W h q n l) (x : Int32) (hN : 3000 ≤ N) (hn : l.length + 4 ≤ n) : ∃ h', fW_addFourBytes N q x h = some ((), h') ∧ zw_W h' q n (l ++ zv_four x) ∧ zw_F h h' q := by
  obtain ⟨h1, e1, W1, F1⟩ := zw_addx (N := N) H (x >>> (Int32.ofInt 24 &&& 31)) (by omega)
  obtain ⟨h2, e2, W2, F2⟩ := zw_addx (N := N) W1 (x >>> (Int32.ofInt 16 &&& 31)) (by rw [List.length_append]; show l.length + 1 < n; omega)
  obtain ⟨h3, e3, W3, F3⟩ := zw_addx (N := N) W2 (x >>> (Int32.ofInt 8 &&& 31)) (by rw [List.length_append, List.length_append]; show l.length + 1 + 1 < n; omega)
  obtain ⟨h4, e4, W4, F4⟩ := zw_addx (N := N) W3 (x >>> (Int32.ofInt 0 &&& 31)) (by rw [List.length_append, List.length_append, List.length_append]; show l.length + 1 + 1 + 1 < n; omega)
  refine ⟨h4, ?_, ?_, zw_Ft F1 (zw_Ft F2 (zw_Ft F3 F4))⟩
  · obtain ⟨g, rfl⟩ : ∃ g, N = g + 5 := ⟨N - 5, by omega⟩
    unfold fW_addFourBytes
    rw [zw_T H, cond_true]
    have s1 : ∀ (k : Nat) (h5 : zH), fW_addFourBytes_3 (g + 5) (k + 1) q x (Int32.ofInt 24) h5 = b2 (fW_add (g + 5) q (x >>> (Int32.ofInt 24 &&& 31)) h5) fun _ h2 => fW_addFourBytes_3 (g + 5) k q x (Int32.ofInt 16) h2 := fun k h5 => rfl
    have s2 : ∀ (k : Nat) (h5 : zH), fW_addFourBytes_3 (g + 5) (k + 1) q x (Int32.ofInt 16) h5 = b2 (fW_add (g + 5) q (x >>> (Int32.ofInt 16 &&& 31)) h5) fun _ h2 => fW_addFourBytes_3 (g + 5) k q x (Int32.ofInt 8) h2 := fun k h5 => rfl
    have s3 : ∀ (k : Nat) (h5 : zH), fW_addFourBytes_3 (g + 5) (k + 1) q x (Int32.ofInt 8) h5 = b2 (fW_add (g + 5) q (x >>> (Int32.ofInt 8 &&& 31)) h5) fun _ h2 => fW_addFourBytes_3 (g + 5) k q x (Int32.ofInt 0) h2 := fun k h5 => rfl
    have s4 : ∀ (k : Nat) (h5 : zH), fW_addFourBytes_3 (g + 5) (k + 1) q x (Int32.ofInt 0) h5 = b2 (fW_add (g + 5) q (x >>> (Int32.ofInt 0 &&& 31)) h5) fun _ h2 => fW_addFourBytes_3 (g + 5) k q x (Int32.ofInt (-8)) h2 := fun k h5 => rfl
    have s5 : ∀ (k : Nat) (h5 : zH), fW_addFourBytes_3 (g + 5) (k + 1) q x (Int32.ofInt (-8)) h5 = some ((), h5) := fun k h5 => rfl
    rw [s1 (g + 4), e1, b2, s2 (g + 3), e2, b2, s3 (g + 2), e3, b2, s4 (g + 1), e4, b2, s5 g]
  · rw [List.append_assoc, List.append_assoc, List.append_assoc] at W4
    exact W4
def zv_bytes (a b c d e : Int32) : List Nat := zv_four a ++ (zv_four b ++ (zv_four c ++ (zv_four d ++ zv_four e)))
theorem zk_append (V : zv h now hist snap sv inp rep) (hN : 3000 ≤ N) (a b c d e : Int32) : (580 < inp.length ∧ fB_append N 0 a b c d e h = some (Int32.ofInt (-1), h)) ∨ (inp.length ≤ 580 ∧ ∃ h', fB_append N 0 a b c d e h = some (Int32.ofInt ((inp.length + 20 : Nat) : Int), h') ∧ zv h' now hist snap sv (inp ++ zv_bytes a b c d e) rep ∧ zc_F h h') := by
  obtain ⟨W, cl⟩ := zv_inp V
  have hl := W.2.2.2.1
  unfold fB_append
  rw [zv_T0 V, cond_true, zv_r04 V, b1_s, zv_r20 V, b1_s, zw_z W, b1_s, zqo_le _ _ (by omega) (by decide)]
  by_cases e1 : inp.length ≤ 580
  · refine Or.inr ⟨e1, ?_⟩
    have l4 : ∀ (l : List Nat) (x : Int32), (l ++ zv_four x).length = l.length + 4 := fun l x => by rw [List.length_append]; rfl
    obtain ⟨h1, q1, W1, F1⟩ := zw_four (N := N) W a hN (by omega)
    obtain ⟨h2, q2, W2, F2⟩ := zw_four (N := N) W1 b hN (by rw [l4]; omega)
    obtain ⟨h3, q3, W3, F3⟩ := zw_four (N := N) W2 c hN (by rw [l4, l4]; omega)
    obtain ⟨h4, q4, W4, F4⟩ := zw_four (N := N) W3 d hN (by rw [l4, l4, l4]; omega)
    obtain ⟨h5, q5, W5, F5⟩ := zw_four (N := N) W4 e hN (by rw [l4, l4, l4, l4]; omega)
    have z5 := zw_z W5
    rw [l4, l4, l4, l4, l4] at z5
    obtain ⟨V5, G5⟩ := cl h5 _ W5 (zw_Ft F1 (zw_Ft F2 (zw_Ft F3 (zw_Ft F4 F5))))
    rw [List.append_assoc, List.append_assoc, List.append_assoc, List.append_assoc] at V5
    refine ⟨h5, ?_, V5, G5⟩
    rw [decide_eq_true (by omega), cond_true, q1, b2, q2, b2, q3, b2, q4, b2, q5, b2, z5, b1_s]
  · refine Or.inl ⟨by omega, ?_⟩
    rw [decide_eq_false (by omega), cond_false]
end ZVI
end
section
/-! THE CLASS'S readText. -/
/-- how many letters the input begins with -/
def zv_pl (L : Nat) : List Nat → Nat
  | [] => 0
  | v :: l => if 97 ≤ v ∧ v < 97 + L then zv_pl L l + 1 else 0
theorem zv_pll (L : Nat) : ∀ l : List Nat, zv_pl L l ≤ l.length := by
  intro l
  induction l with
  | nil => exact Nat.le_refl 0
  | cons v l ih =>
    rw [zv_pl, List.length_cons]
    split <;> omega
theorem zv_plL (L : Nat) : ∀ l : List Nat, ∀ v ∈ l.take (zv_pl L l), 97 ≤ v ∧ v < 97 + L := by
  intro l
  induction l with
  | nil => intro v h; cases h
  | cons u l ih =>
    intro v h
    rw [zv_pl] at h
    split at h
    · next e =>
      rw [List.take_succ_cons] at h
      rcases List.mem_cons.mp h with h | h
      · rw [h]
        exact e
      · exact ih v h
    · cases h
section ZVJ
variable {N : Nat} {h : zH} {now snap : zA} {hist : List zA} {sv : Int} {inp : List Nat} {rep : zvP}
theorem zv_isLetter (V : zv h now hist snap sv inp rep) (x : Int) (hx : -2147483648 ≤ x ∧ x < 2147483648) : fS_isLetter N 1 (Int32.ofInt x) h = some (cond (decide (97 ≤ x ∧ x < 97 + (now.1 : Int))) (Int32.ofInt 1) (Int32.ofInt 0), h) := by
  obtain ⟨ok, S, H, _⟩ := zv_open V
  exact zs_isLetter H x hx
theorem zk_read12 (V : zv h now hist snap sv inp rep) : ∀ c f i : Nat, c < f → i + c = inp.length → fB_readText_12 N f 0 204 (Int32.ofInt (i : Int)) (Int32.ofInt (i : Int)) h = fB_readText_45 N 0 204 (Int32.ofInt ((i + zv_pl now.1 (inp.drop i) : Nat) : Int)) h := by
  obtain ⟨W, cl⟩ := zv_inp V
  have hl := W.2.2.2.1
  have h256 := W.2.2.2.2.2
  have ok := (zv_open V).1
  intro c
  induction c with
  | zero =>
    intro f i h1 h2
    obtain ⟨g, rfl⟩ : ∃ g, f = g + 1 := ⟨f - 1, by omega⟩
    rw [fB_readText_12, zw_z W, b1_s, zqo_ge _ _ (by omega) (by omega), decide_eq_true (by omega), cond_true, List.drop_of_length_le (by omega)]
    rfl
  | succ c ih =>
    intro f i h1 h2
    obtain ⟨g, rfl⟩ : ∃ g, f = g + 1 := ⟨f - 1, by omega⟩
    have g1 := zw_gD h256 i
    have hd : inp.drop i = inp.getD i 0 :: inp.drop (i + 1) := by
      rw [List.drop_eq_getElem_cons (show i < inp.length by omega), List.getD_eq_getElem?_getD, List.getElem?_eq_getElem (show i < inp.length by omega)]
      rfl
    rw [fB_readText_12, zw_z W, b1_s, zqo_ge _ _ (by omega) (by omega), decide_eq_false (by omega), cond_false, zv_r00 V, b1_s, zw_at W _ (by omega), b2, zw_gi (by omega), show ((i : Nat) : Int).toNat = i by omega, zv_isLetter V _ (by omega), b2, hd, zv_pl]
    by_cases e : 97 ≤ inp.getD i 0 ∧ inp.getD i 0 < 97 + now.1
    · rw [decide_eq_true (by omega), cond_true, show z_cmp .eq (Int32.ofInt 1) (Int32.ofInt 0) = false from rfl, cond_false, if_pos e, zh_inc, ih g (i + 1) (by omega) (by omega)]
      congr 3
      omega
    · rw [decide_eq_false (by omega), cond_false, show z_cmp .eq (Int32.ofInt 0) (Int32.ofInt 0) = true from rfl, cond_true, if_neg e, Nat.add_zero]
theorem zk_readText (V : zv h now hist snap sv inp rep) (hN : 3000 ≤ N) : (120 < zv_pl now.1 inp ∧ fB_readText N 0 h = some (.inr 1, h)) ∨ (zv_pl now.1 inp ≤ 120 ∧ ∃ h', fB_readText N 0 h = some (.inl (Int32.ofInt (zv_pl now.1 inp : Int)), h') ∧ zv h' (now.1, inp.take (zv_pl now.1 inp), now.2.2) (zv_push hist now) snap sv [] rep ∧ zc_F h h') := by
  obtain ⟨W, cl⟩ := zv_inp V
  have hl := W.2.2.2.1
  have pl := zv_pll now.1 inp
  have e0 := zk_read12 (N := N) V inp.length N 0 (by omega) (by omega)
  rw [List.drop_zero, Nat.zero_add] at e0
  unfold fB_readText
  rw [zv_T0 V, cond_true, zv_r04 V, b1_s, zv_r20 V, b1_s, show Int32.ofInt 0 = Int32.ofInt ((0 : Nat) : Int) from rfl, e0]
  unfold fB_readText_45
  rw [zqo_le _ _ (by omega) (by decide)]
  by_cases e : zv_pl now.1 inp ≤ 120
  · refine Or.inr ⟨e, ?_⟩
    obtain ⟨h1, e1, V1, F1⟩ := zv_remember (N := N) V (by omega)
    obtain ⟨h2, e2, W2, F2⟩ := zw_clear (N := N) (zv_txt V1)
    obtain ⟨V2, G2⟩ := zv_text V1 W2 F2 (fun v hv => by cases hv)
    obtain ⟨I2, _⟩ := zv_inp V2
    obtain ⟨h3, e3, W3, F3⟩ := zw_addPart (N := N) (show zw_d 204 (1 + 1) by unfold zw_d; omega) W2 I2 0 (zv_pl now.1 inp) (by omega) (by rw [List.length_nil]; omega) (by omega)
    rw [List.drop_zero, List.nil_append] at W3
    rw [Nat.zero_add] at e3
    obtain ⟨V3, G3⟩ := zv_text V2 W3 F3 (zv_plL now.1 inp)
    obtain ⟨I3, cl3⟩ := zv_inp V3
    obtain ⟨h4, e4, W4, F4⟩ := zw_clear (N := N) I3
    obtain ⟨V4, G4⟩ := cl3 h4 _ W4 F4
    have z4 := zw_z (zv_txt V4)
    have lt : (inp.take (zv_pl now.1 inp)).length = zv_pl now.1 inp := by rw [List.length_take]; omega
    refine ⟨h4, ?_, V4, zc_Ft F1 (zc_Ft G2 (zc_Ft G3 G4))⟩
    rw [decide_eq_true (by omega), cond_true, zv_r01 V, b1_s, zv_r00 V, b1_s, e1, b2, zv_r00 V1, b1_s, zv_t V1, b1_s, e2, b2, zv_r00 V2, b1_s, zv_t V2, b1_s, show Int32.ofInt 0 = Int32.ofInt ((0 : Nat) : Int) from rfl, e3, b2, e4, b2, zv_r00 V4, b1_s, zv_t V4, b1_s, z4, b1_s]
    show some (Sum.inl (Int32.ofInt ((inp.take (zv_pl now.1 inp)).length : Int)), h4) = _
    rw [lt]
  · refine Or.inl ⟨by omega, ?_⟩
    rw [decide_eq_false (by omega), cond_false]
end ZVJ
end
