/-! THE CLASS'S OBJECTS, all together. -/
/-- where the states are -/
def zc_Q (q : Nat) : Prop := q = 1 ∨ (∃ k, k < 9 ∧ q = 23 + 20 * k) ∨ q = 206
theorem zc_Qd {p q : Nat} (h1 : zc_Q p) (h2 : zc_Q q) (h : p ≠ q) : p + 20 ≤ q ∨ q + 20 ≤ p := by
  rcases h1 with h1 | ⟨k, k1, h1⟩ | h1 <;> rcases h2 with h2 | ⟨j, j1, h2⟩ | h2 <;> omega
theorem zc_Qb {q : Nat} (h1 : zc_Q q) : (q = 1 ∨ (23 ≤ q ∧ q ≤ 183) ∨ q = 206) := by
  rcases h1 with h1 | ⟨k, k1, h1⟩ | h1 <;> omega
/-- where the words beside the states are, and their room -/
def zc_W (o n : Nat) : Prop := (o = 204 ∧ n = 600) ∨ (o = 228 ∧ n = 240) ∨ (o = 230 ∧ n = 121)
def zc_ha (hs : Nat → Nat) : List Value := [.ref (hs 0), .ref (hs 1), .ref (hs 2), .ref (hs 3), .ref (hs 4), .ref (hs 5), .ref (hs 6), .ref (hs 7)]
def zc_o0 (nu : Nat → Int) : List Value := [.ref 1, .ref 21, .ref 183, .int (Int32.ofInt (nu 0)), .ref 203, .ref 228, .ref 230]
def zc_o1 (nu : Nat → Int) : List Value := [.ref 22, .int (Int32.ofInt (nu 1))]
def zc_o2 (nu : Nat → Int) : List Value := [.ref 204, .ref 206, .int (Int32.ofInt (nu 2)), .int (Int32.ofInt (nu 3)), .int (Int32.ofInt (nu 4)), .int (Int32.ofInt (nu 5)), .int (Int32.ofInt (nu 6)), .int (Int32.ofInt (nu 7)), .int (Int32.ofInt (nu 8)), .int (Int32.ofInt (nu 9)), .ref 226, .ref 227]
/-- the class: its states by their places (letters, text, shelf, how many are kept), its words by their places, its numbers (0: a snapshot is saved, 1: how many states are remembered, 2 to 9: the script's fields, 10 and 11: bodies, 12 and 13: rounds), the remembered states' places -/
def zc (h : zH) (sL : Nat → Nat) (sT : Nat → List Nat) (sS : Nat → Nat → List Nat) (sK : Nat → Nat) (wd : Nat → List Nat) (nu : Nat → Int) (hs : Nat → Nat) : Prop :=
  h[0]? = some (0, zc_o0 nu) ∧ h[21]? = some (1, zc_o1 nu) ∧ h[22]? = some (105, zc_ha hs) ∧ h[203]? = some (2, zc_o2 nu) ∧ h[226]? = some (100, [.int (Int32.ofInt (nu 10)), .int (Int32.ofInt (nu 11))]) ∧ h[227]? = some (100, [.int (Int32.ofInt (nu 12)), .int (Int32.ofInt (nu 13))]) ∧ (∀ q, zc_Q q → zs_S h q (sL q) (sT q) (sS q) (sK q)) ∧ (∀ o n, zc_W o n → zw_W h o n (wd o)) ∧ (∀ i, i < 8 → ∃ k, k < 8 ∧ hs i = 23 + 20 * k) ∧ (∀ i j, i < 8 → j < 8 → i ≠ j → hs i ≠ hs j)
def zc_u {α : Type} (f : Nat → α) (q : Nat) (v : α) : Nat → α := fun p => if p = q then v else f p
theorem zc_us {α : Type} (f : Nat → α) (q : Nat) (v : α) : zc_u f q v q = v := if_pos rfl
theorem zc_un {α : Type} (f : Nat → α) {q p : Nat} (v : α) (h : p ≠ q) : zc_u f q v p = f p := if_neg h
/-- only the class's cells have changed -/
def zc_F (h h' : zH) : Prop := h'.length = h.length ∧ ∀ p, 232 ≤ p → h'[p]? = h[p]?
theorem zc_Fr (h : zH) : zc_F h h := ⟨rfl, fun _ _ => rfl⟩
theorem zc_Ft {h1 h2 h3 : zH} (a : zc_F h1 h2) (b : zc_F h2 h3) : zc_F h1 h3 := ⟨b.1.trans a.1, fun p h4 => (b.2 p h4).trans (a.2 p h4)⟩
section ZCC
variable {h h' : zH} {sL : Nat → Nat} {sT : Nat → List Nat} {sS : Nat → Nat → List Nat} {sK : Nat → Nat} {wd : Nat → List Nat} {nu : Nat → Int} {hs : Nat → Nat}
theorem zc_st (C : zc h sL sT sS sK wd nu hs) {q : Nat} (hq : zc_Q q) : zs_S h q (sL q) (sT q) (sS q) (sK q) := C.2.2.2.2.2.2.1 q hq
theorem zc_now (C : zc h sL sT sS sK wd nu hs) : zs_S h 1 (sL 1) (sT 1) (sS 1) (sK 1) := zc_st C (Or.inl rfl)
theorem zc_wd (C : zc h sL sT sS sK wd nu hs) {o n : Nat} (ho : zc_W o n) : zw_W h o n (wd o) := C.2.2.2.2.2.2.2.1 o n ho
/-- a state changed -/
theorem zc_state (C : zc h sL sT sS sK wd nu hs) {q L K : Nat} {T : List Nat} {S : Nat → List Nat} (hq : zc_Q q) (H : zs_S h' q L T S K) (f : zs_F h h' q) : zc h' (zc_u sL q L) (zc_u sT q T) (zc_u sS q S) (zc_u sK q K) wd nu hs ∧ zc_F h h' := by
  obtain ⟨c1, c2, c3, c4, c5, c6, c7, c8, c9⟩ := C
  have b := zc_Qb hq
  refine ⟨⟨(f.2 0 (by omega)).trans c1, (f.2 21 (by omega)).trans c2, (f.2 22 (by omega)).trans c3, (f.2 203 (by omega)).trans c4, (f.2 226 (by omega)).trans c5, (f.2 227 (by omega)).trans c6, ?_, ?_, c9⟩, f.1, fun p hp => f.2 p (by omega)⟩
  · intro p hp
    by_cases e : p = q
    · subst e
      rw [zc_us, zc_us, zc_us, zc_us]
      exact H
    · rw [zc_un _ _ e, zc_un _ _ e, zc_un _ _ e, zc_un _ _ e]
      exact zs_keep (c7 p hp) f (zc_Qd hp hq e)
  · intro o n ho
    refine zs_keepW (c8 o n ho) f ?_
    rcases ho with ⟨ho, _⟩ | ⟨ho, _⟩ | ⟨ho, _⟩ <;> omega
/-- a word beside the states changed -/
theorem zc_word (C : zc h sL sT sS sK wd nu hs) {o n : Nat} {l : List Nat} (ho : zc_W o n) (W : zw_W h' o n l) (f : zw_F h h' o) : zc h' sL sT sS sK (zc_u wd o l) nu hs ∧ zc_F h h' := by
  obtain ⟨c1, c2, c3, c4, c5, c6, c7, c8, c9⟩ := C
  have b : o = 204 ∨ o = 228 ∨ o = 230 := by rcases ho with ⟨ho, _⟩ | ⟨ho, _⟩ | ⟨ho, _⟩ <;> omega
  refine ⟨⟨(f.2 0 (by omega) (by omega)).trans c1, (f.2 21 (by omega) (by omega)).trans c2, (f.2 22 (by omega) (by omega)).trans c3, (f.2 203 (by omega) (by omega)).trans c4, (f.2 226 (by omega) (by omega)).trans c5, (f.2 227 (by omega) (by omega)).trans c6, ?_, ?_, c9⟩, f.1, fun p hp => f.2 p (by omega) (by omega)⟩
  · intro p hp
    have b2 := zc_Qb hp
    exact zs_keepo (c7 p hp) f (by omega)
  · intro o2 n2 ho2
    by_cases e : o2 = o
    · subst e
      rw [zc_us]
      have : n2 = n := by rcases ho with ⟨ho, x⟩ | ⟨ho, x⟩ | ⟨ho, x⟩ <;> rcases ho2 with ⟨ho2, y⟩ | ⟨ho2, y⟩ | ⟨ho2, y⟩ <;> omega
      rw [this]
      exact W
    · rw [zc_un _ _ e]
      refine zw_keep (c8 o2 n2 ho2) f ?_
      unfold zw_d
      rcases ho2 with ⟨ho2, y⟩ | ⟨ho2, y⟩ | ⟨ho2, y⟩ <;> omega
/-- one of the class's own small cells changed -/
theorem zc_cells (C : zc h sL sT sS sK wd nu hs) {p : Nat} {c : zC} (hp : p = 0 ∨ p = 21 ∨ p = 22 ∨ p = 203 ∨ p = 226 ∨ p = 227) : (∀ q, zc_Q q → zs_S (h.set p c) q (sL q) (sT q) (sS q) (sK q)) ∧ (∀ o n, zc_W o n → zw_W (h.set p c) o n (wd o)) ∧ zc_F h (h.set p c) := by
  obtain ⟨c1, c2, c3, c4, c5, c6, c7, c8, c9⟩ := C
  have f : ∀ r, r ≠ p → (h.set p c)[r]? = h[r]? := fun r hr => zh_set (fun e => hr e.symm)
  have kw : ∀ {o n : Nat} {l : List Nat}, zw_W h o n l → o ≠ p → o + 1 ≠ p → zw_W (h.set p c) o n l := by
    intro o n l W h1 h2
    obtain ⟨b1', b2', ⟨R, b3, b4, b5⟩, b6, b7⟩ := W
    exact ⟨b1', (f o h1).trans b2', ⟨R, (f (o + 1) h2).trans b3, b4, b5⟩, b6, b7⟩
  refine ⟨?_, ?_, by rw [List.length_set], fun r hr => f r (by omega)⟩
  · intro q hq
    have b := zc_Qb hq
    obtain ⟨a1, a2, a3, a4, a5, a6⟩ := c7 q hq
    exact ⟨a1, (f q (by omega)).trans a2, (f (q + 3) (by omega)).trans a3, kw a4 (by omega) (by omega), fun i hi => kw (a5 i hi) (by omega) (by omega), a6⟩
  · intro o n ho
    have b : o = 204 ∨ o = 228 ∨ o = 230 := by rcases ho with ⟨ho, _⟩ | ⟨ho, _⟩ | ⟨ho, _⟩ <;> omega
    exact kw (c8 o n ho) (by omega) (by omega)
/-- the script's numbers -/
theorem zc_sc (C : zc h sL sT sS sK wd nu hs) (k : Nat) (hk : 2 ≤ k ∧ k ≤ 9) : fI h 203 2 k = some (Int32.ofInt (nu k)) := by
  refine zh_I (by decide) C.2.2.2.1 ?_
  have : k = 2 ∨ k = 3 ∨ k = 4 ∨ k = 5 ∨ k = 6 ∨ k = 7 ∨ k = 8 ∨ k = 9 := by omega
  rcases this with e | e | e | e | e | e | e | e <;> subst e <;> rfl
theorem zc_scs (C : zc h sL sT sS sK wd nu hs) (k : Nat) (hk : 2 ≤ k ∧ k ≤ 9) (x : Int) : ∃ h', fS h 203 2 k (.int (Int32.ofInt x)) = some h' ∧ zc h' sL sT sS sK wd (zc_u nu k x) hs ∧ zc_F h h' := by
  obtain ⟨k7, k8, kF⟩ := zc_cells C (p := 203) (c := (2, zc_o2 (zc_u nu k x))) (by omega)
  obtain ⟨c1, c2, c3, c4, c5, c6, c7, c8, c9⟩ := C
  have e : (zc_o2 nu).set k (.int (Int32.ofInt x)) = zc_o2 (zc_u nu k x) := by
    have : k = 2 ∨ k = 3 ∨ k = 4 ∨ k = 5 ∨ k = 6 ∨ k = 7 ∨ k = 8 ∨ k = 9 := by omega
    rcases this with e | e | e | e | e | e | e | e <;> subst e <;> rfl
  refine ⟨h.set 203 (2, zc_o2 (zc_u nu k x)), ?_, ⟨(zh_set (by decide)).trans ?_, (zh_set (by decide)).trans ?_, (zh_set (by decide)).trans c3, List.getElem?_set_self (List.getElem?_eq_some_iff.mp c4).1, (zh_set (by decide)).trans ?_, (zh_set (by decide)).trans ?_, k7, k8, c9⟩, kF⟩
  · rw [zh_S c4 (show k < 12 by omega), e]
  · rw [c1]
    unfold zc_o0
    rw [zc_un _ _ (show (0 : Nat) ≠ k by omega)]
  · rw [c2]
    unfold zc_o1
    rw [zc_un _ _ (show (1 : Nat) ≠ k by omega)]
  · rw [c5, zc_un _ _ (show (10 : Nat) ≠ k by omega), zc_un _ _ (show (11 : Nat) ≠ k by omega)]
  · rw [c6, zc_un _ _ (show (12 : Nat) ≠ k by omega), zc_un _ _ (show (13 : Nat) ≠ k by omega)]
/-- a snapshot is saved -/
theorem zc_saved (C : zc h sL sT sS sK wd nu hs) (x : Int) : ∃ h', fS h 0 0 3 (.int (Int32.ofInt x)) = some h' ∧ zc h' sL sT sS sK wd (zc_u nu 0 x) hs ∧ zc_F h h' := by
  obtain ⟨k7, k8, kF⟩ := zc_cells C (p := 0) (c := (0, zc_o0 (zc_u nu 0 x))) (by omega)
  obtain ⟨c1, c2, c3, c4, c5, c6, c7, c8, c9⟩ := C
  refine ⟨h.set 0 (0, zc_o0 (zc_u nu 0 x)), ?_, ⟨List.getElem?_set_self (List.getElem?_eq_some_iff.mp c1).1, (zh_set (by decide)).trans c2, (zh_set (by decide)).trans c3, (zh_set (by decide)).trans c4, (zh_set (by decide)).trans c5, (zh_set (by decide)).trans c6, k7, k8, c9⟩, kF⟩
  rw [zh_S c1 (show 3 < 7 by decide)]
  rfl
/-- how many states are remembered -/
theorem zc_many (C : zc h sL sT sS sK wd nu hs) (x : Int) : ∃ h', fS h 21 1 1 (.int (Int32.ofInt x)) = some h' ∧ zc h' sL sT sS sK wd (zc_u nu 1 x) hs ∧ zc_F h h' := by
  obtain ⟨k7, k8, kF⟩ := zc_cells C (p := 21) (c := (1, zc_o1 (zc_u nu 1 x))) (by omega)
  obtain ⟨c1, c2, c3, c4, c5, c6, c7, c8, c9⟩ := C
  refine ⟨h.set 21 (1, zc_o1 (zc_u nu 1 x)), ?_, ⟨(zh_set (by decide)).trans c1, List.getElem?_set_self (List.getElem?_eq_some_iff.mp c2).1, (zh_set (by decide)).trans c3, (zh_set (by decide)).trans c4, (zh_set (by decide)).trans c5, (zh_set (by decide)).trans c6, k7, k8, c9⟩, kF⟩
  rw [zh_S c2 (show 1 < 2 by decide)]
  rfl
theorem zc_cnt (C : zc h sL sT sS sK wd nu hs) : fI h 21 1 1 = some (Int32.ofInt (nu 1)) := zh_I (b := 1) (by decide) C.2.1 rfl
theorem zc_T1 (C : zc h sL sT sS sK wd nu hs) : fT h 21 1 = true := zi_T (by decide) C.2.1
theorem zc_r1 (C : zc h sL sT sS sK wd nu hs) : fR h 21 1 0 = some 22 := zh_R (b := 0) (by decide) C.2.1 rfl
theorem zc_n1 (C : zc h sL sT sS sK wd nu hs) : fN h 22 105 = some (Int32.ofInt 8) := by
  rw [zi_N (by decide) C.2.2.1]
  rfl
theorem zc_hi (hs : Nat → Nat) (i : Nat) (hi : i < 8) : (zc_ha hs)[i]? = some (.ref (hs i)) := by
  have : i = 0 ∨ i = 1 ∨ i = 2 ∨ i = 3 ∨ i = 4 ∨ i = 5 ∨ i = 6 ∨ i = 7 := by omega
  rcases this with e | e | e | e | e | e | e | e <;> subst e <;> rfl
theorem zc_hset (hs : Nat → Nat) (i x : Nat) (hi : i < 8) : (zc_ha hs).set i (.ref x) = zc_ha (zc_u hs i x) := by
  have : i = 0 ∨ i = 1 ∨ i = 2 ∨ i = 3 ∨ i = 4 ∨ i = 5 ∨ i = 6 ∨ i = 7 := by omega
  rcases this with e | e | e | e | e | e | e | e <;> subst e <;> rfl
theorem zc_i1 (C : zc h sL sT sS sK wd nu hs) {i : Nat} (hi : i < 8) : fAR h 22 105 (Int32.ofInt (i : Int)) = some (hs i) := zh_AR (by decide) C.2.2.1 (zc_hi hs i hi) (by omega)
theorem zc_hq (C : zc h sL sT sS sK wd nu hs) {i : Nat} (hi : i < 8) : zc_Q (hs i) := by
  obtain ⟨k, k1, k2⟩ := C.2.2.2.2.2.2.2.2.1 i hi
  exact Or.inr (Or.inl ⟨k, by omega, k2⟩)
theorem zc_hx (C : zc h sL sT sS sK wd nu hs) {i : Nat} (hi : i < 8) : fX h (hs i) = true := by
  have H := zc_st C (zc_hq C hi)
  unfold fX
  rw [zh_hg (by have := H.1; omega) H.2.1]
  rfl
theorem zc_T0 (C : zc h sL sT sS sK wd nu hs) : fT h 0 0 = true := zi_T (by decide) C.1
theorem zc_r00 (C : zc h sL sT sS sK wd nu hs) : fR h 0 0 0 = some 1 := zh_R (b := 0) (by decide) C.1 rfl
theorem zc_r01 (C : zc h sL sT sS sK wd nu hs) : fR h 0 0 1 = some 21 := zh_R (b := 1) (by decide) C.1 rfl
theorem zc_r02 (C : zc h sL sT sS sK wd nu hs) : fR h 0 0 2 = some 183 := zh_R (b := 2) (by decide) C.1 rfl
theorem zc_i03 (C : zc h sL sT sS sK wd nu hs) : fI h 0 0 3 = some (Int32.ofInt (nu 0)) := zh_I (b := 3) (by decide) C.1 rfl
theorem zc_r04 (C : zc h sL sT sS sK wd nu hs) : fR h 0 0 4 = some 203 := zh_R (b := 4) (by decide) C.1 rfl
theorem zc_r05 (C : zc h sL sT sS sK wd nu hs) : fR h 0 0 5 = some 228 := zh_R (b := 5) (by decide) C.1 rfl
theorem zc_r06 (C : zc h sL sT sS sK wd nu hs) : fR h 0 0 6 = some 230 := zh_R (b := 6) (by decide) C.1 rfl
theorem zc_T2 (C : zc h sL sT sS sK wd nu hs) : fT h 203 2 = true := zi_T (by decide) C.2.2.2.1
theorem zc_r20 (C : zc h sL sT sS sK wd nu hs) : fR h 203 2 0 = some 204 := zh_R (b := 0) (by decide) C.2.2.2.1 rfl
theorem zc_r21 (C : zc h sL sT sS sK wd nu hs) : fR h 203 2 1 = some 206 := zh_R (b := 1) (by decide) C.2.2.2.1 rfl
end ZCC
