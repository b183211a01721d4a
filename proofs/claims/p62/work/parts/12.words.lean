/-! THE CHECK of the tables: lemmas. -/
def z_oke' (T : zT) (P : zP) (M : zM) (nm : MethodName) (cc : ByteArray) (q : zE) : Prop := match q with
  | (pc, i, len, a, b) => decode cc pc = .ok (i, len) ∧ (match z_kind i a b with
    | 0 => z_len i len ∧ z_tgt i pc a
    | 1 => z_okh M.2.2.2.2.2.1 M.2.2.2.2.2.2.1 M.2.2.2.2.2.2.2 M.2.2.2.2.1 T nm.cls nm.name M.2.2.2.1 i len pc a b
    | 2 => len = 3 ∧ z_okv P M nm.cls i a b
    | 7 => len = 3 ∧ z_okn P M nm.cls i a b
    | 3 => len = 3 ∧ z_oks P M nm.cls i a b
    | 4 => len = 1
    | 5 => i = .return_ ∧ len = 1
    | _ => True)
theorem z_okm_of {T : zT} {P : zP} {M : zM} {y : Nat} (nm : MethodName) (cc : ByteArray) (l : List zE) (hx : List zX) (hn : M.1 y = nm) (hc : M.2.1 y = cc) (hl : P.1 y = l) (hh : P.2.2.1 y = hx) (h1 : ∀ q ∈ l, z_oke' T P M nm cc q) (h2 : ∀ x ∈ hx, z_okx P M y x) : z_okm T P M y := by
  subst hn; subst hc; subst hl; subst hh
  exact ⟨h1, h2⟩
theorem z_fc {α : Type} {Q : α → Prop} {a : α} {l : List α} (h : Q a) (t : ∀ q ∈ l, Q q) : ∀ q ∈ a :: l, Q q := List.forall_mem_cons.mpr ⟨h, t⟩
theorem z_fn {α : Type} {Q : α → Prop} : ∀ q ∈ ([] : List α), Q q := fun _ h => absurd h List.not_mem_nil
theorem z_mem (i : Nat) {w : Cond} (h : lw_tbl[i]? = some w) (hg : goodWord w = true) : w ∈ za_Ts := List.mem_filter.mpr ⟨List.mem_of_getElem? h, hg⟩
section ZO
variable {T : zT} {P : zP} {M : zM} {nm : MethodName} {cc : ByteArray} {pc len a b : Nat} {i : Instr}
theorem zo_l (hd : decode cc pc = .ok (i, len)) (hk : z_kind i a b = 0) (hn : z_len i len) (ht : z_tgt i pc a) : z_oke' T P M nm cc (pc, i, len, a, b) := by
  unfold z_oke'
  dsimp only
  rw [hk]
  exact ⟨hd, hn, ht⟩
theorem zo_h (hd : decode cc pc = .ok (i, len)) (hk : z_kind i a b = 1) (h : z_okh M.2.2.2.2.2.1 M.2.2.2.2.2.2.1 M.2.2.2.2.2.2.2 M.2.2.2.2.1 T nm.cls nm.name M.2.2.2.1 i len pc a b) : z_oke' T P M nm cc (pc, i, len, a, b) := by
  unfold z_oke'
  dsimp only
  rw [hk]
  exact ⟨hd, h⟩
theorem zo_v (hd : decode cc pc = .ok (i, 3)) (hk : z_kind i a b = 2) (h : z_okv P M nm.cls i a b) : z_oke' T P M nm cc (pc, i, 3, a, b) := by
  unfold z_oke'
  dsimp only
  rw [hk]
  exact ⟨hd, rfl, h⟩
theorem zo_n (hd : decode cc pc = .ok (i, 3)) (hk : z_kind i a b = 7) (h : z_okn P M nm.cls i a b) : z_oke' T P M nm cc (pc, i, 3, a, b) := by
  unfold z_oke'
  dsimp only
  rw [hk]
  exact ⟨hd, rfl, h⟩
theorem zo_s (hd : decode cc pc = .ok (i, 3)) (hk : z_kind i a b = 3) (h : z_oks P M nm.cls i a b) : z_oke' T P M nm cc (pc, i, 3, a, b) := by
  unfold z_oke'
  dsimp only
  rw [hk]
  exact ⟨hd, rfl, h⟩
theorem zo_r (hd : decode cc pc = .ok (i, 1)) (hk : z_kind i a b = 4) : z_oke' T P M nm cc (pc, i, 1, a, b) := by
  unfold z_oke'
  dsimp only
  rw [hk]
  exact ⟨hd, rfl⟩
theorem zo_e (hd : decode cc pc = .ok (.return_, 1)) : z_oke' T P M nm cc (pc, .return_, 1, a, b) := ⟨hd, rfl, rfl⟩
theorem zo_t (hd : decode cc pc = .ok (i, len)) (hk : z_kind i a b = 6) : z_oke' T P M nm cc (pc, i, len, a, b) := by
  unfold z_oke'
  dsimp only
  rw [hk]
  exact ⟨hd, trivial⟩
end ZO
/-! The tables' words, each by its place: chunks of 16. -/
theorem zu_1 {T : List Cond} {a0 : Cond} (h : ∀ w ∈ [a0], w ∈ T) : a0 ∈ T := h a0 (List.Mem.head _)
theorem zu_2 {T : List Cond} {a0 a1 : Cond} (h : ∀ w ∈ [a0, a1], w ∈ T) : a0 ∈ T ∧ a1 ∈ T := ⟨h a0 (List.Mem.head _), h a1 (List.Mem.tail _ (List.Mem.head _))⟩
theorem zu_3 {T : List Cond} {a0 a1 a2 : Cond} (h : ∀ w ∈ [a0, a1, a2], w ∈ T) : a0 ∈ T ∧ a1 ∈ T ∧ a2 ∈ T := ⟨h a0 (List.Mem.head _), h a1 (List.Mem.tail _ (List.Mem.head _)), h a2 (List.Mem.tail _ (List.Mem.tail _ (List.Mem.head _)))⟩
theorem zu_4 {T : List Cond} {a0 a1 a2 a3 : Cond} (h : ∀ w ∈ [a0, a1, a2, a3], w ∈ T) : a0 ∈ T ∧ a1 ∈ T ∧ a2 ∈ T ∧ a3 ∈ T := ⟨h a0 (List.Mem.head _), h a1 (List.Mem.tail _ (List.Mem.head _)), h a2 (List.Mem.tail _ (List.Mem.tail _ (List.Mem.head _))), h a3 (List.Mem.tail _ (List.Mem.tail _ (List.Mem.tail _ (List.Mem.head _))))⟩
theorem zu_5 {T : List Cond} {a0 a1 a2 a3 a4 : Cond} (h : ∀ w ∈ [a0, a1, a2, a3, a4], w ∈ T) : a0 ∈ T ∧ a1 ∈ T ∧ a2 ∈ T ∧ a3 ∈ T ∧ a4 ∈ T := ⟨h a0 (List.Mem.head _), h a1 (List.Mem.tail _ (List.Mem.head _)), h a2 (List.Mem.tail _ (List.Mem.tail _ (List.Mem.head _))), h a3 (List.Mem.tail _ (List.Mem.tail _ (List.Mem.tail _ (List.Mem.head _)))), h a4 (List.Mem.tail _ (List.Mem.tail _ (List.Mem.tail _ (List.Mem.tail _ (List.Mem.head _)))))⟩
theorem zu_6 {T : List Cond} {a0 a1 a2 a3 a4 a5 : Cond} (h : ∀ w ∈ [a0, a1, a2, a3, a4, a5], w ∈ T) : a0 ∈ T ∧ a1 ∈ T ∧ a2 ∈ T ∧ a3 ∈ T ∧ a4 ∈ T ∧ a5 ∈ T := ⟨h a0 (List.Mem.head _), h a1 (List.Mem.tail _ (List.Mem.head _)), h a2 (List.Mem.tail _ (List.Mem.tail _ (List.Mem.head _))), h a3 (List.Mem.tail _ (List.Mem.tail _ (List.Mem.tail _ (List.Mem.head _)))), h a4 (List.Mem.tail _ (List.Mem.tail _ (List.Mem.tail _ (List.Mem.tail _ (List.Mem.head _))))), h a5 (List.Mem.tail _ (List.Mem.tail _ (List.Mem.tail _ (List.Mem.tail _ (List.Mem.tail _ (List.Mem.head _))))))⟩
theorem zu_7 {T : List Cond} {a0 a1 a2 a3 a4 a5 a6 : Cond} (h : ∀ w ∈ [a0, a1, a2, a3, a4, a5, a6], w ∈ T) : a0 ∈ T ∧ a1 ∈ T ∧ a2 ∈ T ∧ a3 ∈ T ∧ a4 ∈ T ∧ a5 ∈ T ∧ a6 ∈ T := ⟨h a0 (List.Mem.head _), h a1 (List.Mem.tail _ (List.Mem.head _)), h a2 (List.Mem.tail _ (List.Mem.tail _ (List.Mem.head _))), h a3 (List.Mem.tail _ (List.Mem.tail _ (List.Mem.tail _ (List.Mem.head _)))), h a4 (List.Mem.tail _ (List.Mem.tail _ (List.Mem.tail _ (List.Mem.tail _ (List.Mem.head _))))), h a5 (List.Mem.tail _ (List.Mem.tail _ (List.Mem.tail _ (List.Mem.tail _ (List.Mem.tail _ (List.Mem.head _)))))), h a6 (List.Mem.tail _ (List.Mem.tail _ (List.Mem.tail _ (List.Mem.tail _ (List.Mem.tail _ (List.Mem.tail _ (List.Mem.head _)))))))⟩
theorem zu_8 {T : List Cond} {a0 a1 a2 a3 a4 a5 a6 a7 : Cond} (h : ∀ w ∈ [a0, a1, a2, a3, a4, a5, a6, a7], w ∈ T) : a0 ∈ T ∧ a1 ∈ T ∧ a2 ∈ T ∧ a3 ∈ T ∧ a4 ∈ T ∧ a5 ∈ T ∧ a6 ∈ T ∧ a7 ∈ T := ⟨h a0 (List.Mem.head _), h a1 (List.Mem.tail _ (List.Mem.head _)), h a2 (List.Mem.tail _ (List.Mem.tail _ (List.Mem.head _))), h a3 (List.Mem.tail _ (List.Mem.tail _ (List.Mem.tail _ (List.Mem.head _)))), h a4 (List.Mem.tail _ (List.Mem.tail _ (List.Mem.tail _ (List.Mem.tail _ (List.Mem.head _))))), h a5 (List.Mem.tail _ (List.Mem.tail _ (List.Mem.tail _ (List.Mem.tail _ (List.Mem.tail _ (List.Mem.head _)))))), h a6 (List.Mem.tail _ (List.Mem.tail _ (List.Mem.tail _ (List.Mem.tail _ (List.Mem.tail _ (List.Mem.tail _ (List.Mem.head _))))))), h a7 (List.Mem.tail _ (List.Mem.tail _ (List.Mem.tail _ (List.Mem.tail _ (List.Mem.tail _ (List.Mem.tail _ (List.Mem.tail _ (List.Mem.head _))))))))⟩
theorem zu_9 {T : List Cond} {a0 a1 a2 a3 a4 a5 a6 a7 a8 : Cond} (h : ∀ w ∈ [a0, a1, a2, a3, a4, a5, a6, a7, a8], w ∈ T) : a0 ∈ T ∧ a1 ∈ T ∧ a2 ∈ T ∧ a3 ∈ T ∧ a4 ∈ T ∧ a5 ∈ T ∧ a6 ∈ T ∧ a7 ∈ T ∧ a8 ∈ T := ⟨h a0 (List.Mem.head _), h a1 (List.Mem.tail _ (List.Mem.head _)), h a2 (List.Mem.tail _ (List.Mem.tail _ (List.Mem.head _))), h a3 (List.Mem.tail _ (List.Mem.tail _ (List.Mem.tail _ (List.Mem.head _)))), h a4 (List.Mem.tail _ (List.Mem.tail _ (List.Mem.tail _ (List.Mem.tail _ (List.Mem.head _))))), h a5 (List.Mem.tail _ (List.Mem.tail _ (List.Mem.tail _ (List.Mem.tail _ (List.Mem.tail _ (List.Mem.head _)))))), h a6 (List.Mem.tail _ (List.Mem.tail _ (List.Mem.tail _ (List.Mem.tail _ (List.Mem.tail _ (List.Mem.tail _ (List.Mem.head _))))))), h a7 (List.Mem.tail _ (List.Mem.tail _ (List.Mem.tail _ (List.Mem.tail _ (List.Mem.tail _ (List.Mem.tail _ (List.Mem.tail _ (List.Mem.head _)))))))), h a8 (List.Mem.tail _ (List.Mem.tail _ (List.Mem.tail _ (List.Mem.tail _ (List.Mem.tail _ (List.Mem.tail _ (List.Mem.tail _ (List.Mem.tail _ (List.Mem.head _)))))))))⟩
theorem zu_10 {T : List Cond} {a0 a1 a2 a3 a4 a5 a6 a7 a8 a9 : Cond} (h : ∀ w ∈ [a0, a1, a2, a3, a4, a5, a6, a7, a8, a9], w ∈ T) : a0 ∈ T ∧ a1 ∈ T ∧ a2 ∈ T ∧ a3 ∈ T ∧ a4 ∈ T ∧ a5 ∈ T ∧ a6 ∈ T ∧ a7 ∈ T ∧ a8 ∈ T ∧ a9 ∈ T := ⟨h a0 (List.Mem.head _), h a1 (List.Mem.tail _ (List.Mem.head _)), h a2 (List.Mem.tail _ (List.Mem.tail _ (List.Mem.head _))), h a3 (List.Mem.tail _ (List.Mem.tail _ (List.Mem.tail _ (List.Mem.head _)))), h a4 (List.Mem.tail _ (List.Mem.tail _ (List.Mem.tail _ (List.Mem.tail _ (List.Mem.head _))))), h a5 (List.Mem.tail _ (List.Mem.tail _ (List.Mem.tail _ (List.Mem.tail _ (List.Mem.tail _ (List.Mem.head _)))))), h a6 (List.Mem.tail _ (List.Mem.tail _ (List.Mem.tail _ (List.Mem.tail _ (List.Mem.tail _ (List.Mem.tail _ (List.Mem.head _))))))), h a7 (List.Mem.tail _ (List.Mem.tail _ (List.Mem.tail _ (List.Mem.tail _ (List.Mem.tail _ (List.Mem.tail _ (List.Mem.tail _ (List.Mem.head _)))))))), h a8 (List.Mem.tail _ (List.Mem.tail _ (List.Mem.tail _ (List.Mem.tail _ (List.Mem.tail _ (List.Mem.tail _ (List.Mem.tail _ (List.Mem.tail _ (List.Mem.head _))))))))), h a9 (List.Mem.tail _ (List.Mem.tail _ (List.Mem.tail _ (List.Mem.tail _ (List.Mem.tail _ (List.Mem.tail _ (List.Mem.tail _ (List.Mem.tail _ (List.Mem.tail _ (List.Mem.head _))))))))))⟩
theorem zu_11 {T : List Cond} {a0 a1 a2 a3 a4 a5 a6 a7 a8 a9 a10 : Cond} (h : ∀ w ∈ [a0, a1, a2, a3, a4, a5, a6, a7, a8, a9, a10], w ∈ T) : a0 ∈ T ∧ a1 ∈ T ∧ a2 ∈ T ∧ a3 ∈ T ∧ a4 ∈ T ∧ a5 ∈ T ∧ a6 ∈ T ∧ a7 ∈ T ∧ a8 ∈ T ∧ a9 ∈ T ∧ a10 ∈ T := ⟨h a0 (List.Mem.head _), h a1 (List.Mem.tail _ (List.Mem.head _)), h a2 (List.Mem.tail _ (List.Mem.tail _ (List.Mem.head _))), h a3 (List.Mem.tail _ (List.Mem.tail _ (List.Mem.tail _ (List.Mem.head _)))), h a4 (List.Mem.tail _ (List.Mem.tail _ (List.Mem.tail _ (List.Mem.tail _ (List.Mem.head _))))), h a5 (List.Mem.tail _ (List.Mem.tail _ (List.Mem.tail _ (List.Mem.tail _ (List.Mem.tail _ (List.Mem.head _)))))), h a6 (List.Mem.tail _ (List.Mem.tail _ (List.Mem.tail _ (List.Mem.tail _ (List.Mem.tail _ (List.Mem.tail _ (List.Mem.head _))))))), h a7 (List.Mem.tail _ (List.Mem.tail _ (List.Mem.tail _ (List.Mem.tail _ (List.Mem.tail _ (List.Mem.tail _ (List.Mem.tail _ (List.Mem.head _)))))))), h a8 (List.Mem.tail _ (List.Mem.tail _ (List.Mem.tail _ (List.Mem.tail _ (List.Mem.tail _ (List.Mem.tail _ (List.Mem.tail _ (List.Mem.tail _ (List.Mem.head _))))))))), h a9 (List.Mem.tail _ (List.Mem.tail _ (List.Mem.tail _ (List.Mem.tail _ (List.Mem.tail _ (List.Mem.tail _ (List.Mem.tail _ (List.Mem.tail _ (List.Mem.tail _ (List.Mem.head _)))))))))), h a10 (List.Mem.tail _ (List.Mem.tail _ (List.Mem.tail _ (List.Mem.tail _ (List.Mem.tail _ (List.Mem.tail _ (List.Mem.tail _ (List.Mem.tail _ (List.Mem.tail _ (List.Mem.tail _ (List.Mem.head _)))))))))))⟩
theorem zu_12 {T : List Cond} {a0 a1 a2 a3 a4 a5 a6 a7 a8 a9 a10 a11 : Cond} (h : ∀ w ∈ [a0, a1, a2, a3, a4, a5, a6, a7, a8, a9, a10, a11], w ∈ T) : a0 ∈ T ∧ a1 ∈ T ∧ a2 ∈ T ∧ a3 ∈ T ∧ a4 ∈ T ∧ a5 ∈ T ∧ a6 ∈ T ∧ a7 ∈ T ∧ a8 ∈ T ∧ a9 ∈ T ∧ a10 ∈ T ∧ a11 ∈ T := ⟨h a0 (List.Mem.head _), h a1 (List.Mem.tail _ (List.Mem.head _)), h a2 (List.Mem.tail _ (List.Mem.tail _ (List.Mem.head _))), h a3 (List.Mem.tail _ (List.Mem.tail _ (List.Mem.tail _ (List.Mem.head _)))), h a4 (List.Mem.tail _ (List.Mem.tail _ (List.Mem.tail _ (List.Mem.tail _ (List.Mem.head _))))), h a5 (List.Mem.tail _ (List.Mem.tail _ (List.Mem.tail _ (List.Mem.tail _ (List.Mem.tail _ (List.Mem.head _)))))), h a6 (List.Mem.tail _ (List.Mem.tail _ (List.Mem.tail _ (List.Mem.tail _ (List.Mem.tail _ (List.Mem.tail _ (List.Mem.head _))))))), h a7 (List.Mem.tail _ (List.Mem.tail _ (List.Mem.tail _ (List.Mem.tail _ (List.Mem.tail _ (List.Mem.tail _ (List.Mem.tail _ (List.Mem.head _)))))))), h a8 (List.Mem.tail _ (List.Mem.tail _ (List.Mem.tail _ (List.Mem.tail _ (List.Mem.tail _ (List.Mem.tail _ (List.Mem.tail _ (List.Mem.tail _ (List.Mem.head _))))))))), h a9 (List.Mem.tail _ (List.Mem.tail _ (List.Mem.tail _ (List.Mem.tail _ (List.Mem.tail _ (List.Mem.tail _ (List.Mem.tail _ (List.Mem.tail _ (List.Mem.tail _ (List.Mem.head _)))))))))), h a10 (List.Mem.tail _ (List.Mem.tail _ (List.Mem.tail _ (List.Mem.tail _ (List.Mem.tail _ (List.Mem.tail _ (List.Mem.tail _ (List.Mem.tail _ (List.Mem.tail _ (List.Mem.tail _ (List.Mem.head _))))))))))), h a11 (List.Mem.tail _ (List.Mem.tail _ (List.Mem.tail _ (List.Mem.tail _ (List.Mem.tail _ (List.Mem.tail _ (List.Mem.tail _ (List.Mem.tail _ (List.Mem.tail _ (List.Mem.tail _ (List.Mem.tail _ (List.Mem.head _))))))))))))⟩
theorem zu_13 {T : List Cond} {a0 a1 a2 a3 a4 a5 a6 a7 a8 a9 a10 a11 a12 : Cond} (h : ∀ w ∈ [a0, a1, a2, a3, a4, a5, a6, a7, a8, a9, a10, a11, a12], w ∈ T) : a0 ∈ T ∧ a1 ∈ T ∧ a2 ∈ T ∧ a3 ∈ T ∧ a4 ∈ T ∧ a5 ∈ T ∧ a6 ∈ T ∧ a7 ∈ T ∧ a8 ∈ T ∧ a9 ∈ T ∧ a10 ∈ T ∧ a11 ∈ T ∧ a12 ∈ T := ⟨h a0 (List.Mem.head _), h a1 (List.Mem.tail _ (List.Mem.head _)), h a2 (List.Mem.tail _ (List.Mem.tail _ (List.Mem.head _))), h a3 (List.Mem.tail _ (List.Mem.tail _ (List.Mem.tail _ (List.Mem.head _)))), h a4 (List.Mem.tail _ (List.Mem.tail _ (List.Mem.tail _ (List.Mem.tail _ (List.Mem.head _))))), h a5 (List.Mem.tail _ (List.Mem.tail _ (List.Mem.tail _ (List.Mem.tail _ (List.Mem.tail _ (List.Mem.head _)))))), h a6 (List.Mem.tail _ (List.Mem.tail _ (List.Mem.tail _ (List.Mem.tail _ (List.Mem.tail _ (List.Mem.tail _ (List.Mem.head _))))))), h a7 (List.Mem.tail _ (List.Mem.tail _ (List.Mem.tail _ (List.Mem.tail _ (List.Mem.tail _ (List.Mem.tail _ (List.Mem.tail _ (List.Mem.head _)))))))), h a8 (List.Mem.tail _ (List.Mem.tail _ (List.Mem.tail _ (List.Mem.tail _ (List.Mem.tail _ (List.Mem.tail _ (List.Mem.tail _ (List.Mem.tail _ (List.Mem.head _))))))))), h a9 (List.Mem.tail _ (List.Mem.tail _ (List.Mem.tail _ (List.Mem.tail _ (List.Mem.tail _ (List.Mem.tail _ (List.Mem.tail _ (List.Mem.tail _ (List.Mem.tail _ (List.Mem.head _)))))))))), h a10 (List.Mem.tail _ (List.Mem.tail _ (List.Mem.tail _ (List.Mem.tail _ (List.Mem.tail _ (List.Mem.tail _ (List.Mem.tail _ (List.Mem.tail _ (List.Mem.tail _ (List.Mem.tail _ (List.Mem.head _))))))))))), h a11 (List.Mem.tail _ (List.Mem.tail _ (List.Mem.tail _ (List.Mem.tail _ (List.Mem.tail _ (List.Mem.tail _ (List.Mem.tail _ (List.Mem.tail _ (List.Mem.tail _ (List.Mem.tail _ (List.Mem.tail _ (List.Mem.head _)))))))))))), h a12 (List.Mem.tail _ (List.Mem.tail _ (List.Mem.tail _ (List.Mem.tail _ (List.Mem.tail _ (List.Mem.tail _ (List.Mem.tail _ (List.Mem.tail _ (List.Mem.tail _ (List.Mem.tail _ (List.Mem.tail _ (List.Mem.tail _ (List.Mem.head _)))))))))))))⟩
theorem zu_14 {T : List Cond} {a0 a1 a2 a3 a4 a5 a6 a7 a8 a9 a10 a11 a12 a13 : Cond} (h : ∀ w ∈ [a0, a1, a2, a3, a4, a5, a6, a7, a8, a9, a10, a11, a12, a13], w ∈ T) : a0 ∈ T ∧ a1 ∈ T ∧ a2 ∈ T ∧ a3 ∈ T ∧ a4 ∈ T ∧ a5 ∈ T ∧ a6 ∈ T ∧ a7 ∈ T ∧ a8 ∈ T ∧ a9 ∈ T ∧ a10 ∈ T ∧ a11 ∈ T ∧ a12 ∈ T ∧ a13 ∈ T := ⟨h a0 (List.Mem.head _), h a1 (List.Mem.tail _ (List.Mem.head _)), h a2 (List.Mem.tail _ (List.Mem.tail _ (List.Mem.head _))), h a3 (List.Mem.tail _ (List.Mem.tail _ (List.Mem.tail _ (List.Mem.head _)))), h a4 (List.Mem.tail _ (List.Mem.tail _ (List.Mem.tail _ (List.Mem.tail _ (List.Mem.head _))))), h a5 (List.Mem.tail _ (List.Mem.tail _ (List.Mem.tail _ (List.Mem.tail _ (List.Mem.tail _ (List.Mem.head _)))))), h a6 (List.Mem.tail _ (List.Mem.tail _ (List.Mem.tail _ (List.Mem.tail _ (List.Mem.tail _ (List.Mem.tail _ (List.Mem.head _))))))), h a7 (List.Mem.tail _ (List.Mem.tail _ (List.Mem.tail _ (List.Mem.tail _ (List.Mem.tail _ (List.Mem.tail _ (List.Mem.tail _ (List.Mem.head _)))))))), h a8 (List.Mem.tail _ (List.Mem.tail _ (List.Mem.tail _ (List.Mem.tail _ (List.Mem.tail _ (List.Mem.tail _ (List.Mem.tail _ (List.Mem.tail _ (List.Mem.head _))))))))), h a9 (List.Mem.tail _ (List.Mem.tail _ (List.Mem.tail _ (List.Mem.tail _ (List.Mem.tail _ (List.Mem.tail _ (List.Mem.tail _ (List.Mem.tail _ (List.Mem.tail _ (List.Mem.head _)))))))))), h a10 (List.Mem.tail _ (List.Mem.tail _ (List.Mem.tail _ (List.Mem.tail _ (List.Mem.tail _ (List.Mem.tail _ (List.Mem.tail _ (List.Mem.tail _ (List.Mem.tail _ (List.Mem.tail _ (List.Mem.head _))))))))))), h a11 (List.Mem.tail _ (List.Mem.tail _ (List.Mem.tail _ (List.Mem.tail _ (List.Mem.tail _ (List.Mem.tail _ (List.Mem.tail _ (List.Mem.tail _ (List.Mem.tail _ (List.Mem.tail _ (List.Mem.tail _ (List.Mem.head _)))))))))))), h a12 (List.Mem.tail _ (List.Mem.tail _ (List.Mem.tail _ (List.Mem.tail _ (List.Mem.tail _ (List.Mem.tail _ (List.Mem.tail _ (List.Mem.tail _ (List.Mem.tail _ (List.Mem.tail _ (List.Mem.tail _ (List.Mem.tail _ (List.Mem.head _))))))))))))), h a13 (List.Mem.tail _ (List.Mem.tail _ (List.Mem.tail _ (List.Mem.tail _ (List.Mem.tail _ (List.Mem.tail _ (List.Mem.tail _ (List.Mem.tail _ (List.Mem.tail _ (List.Mem.tail _ (List.Mem.tail _ (List.Mem.tail _ (List.Mem.tail _ (List.Mem.head _))))))))))))))⟩
theorem zu_15 {T : List Cond} {a0 a1 a2 a3 a4 a5 a6 a7 a8 a9 a10 a11 a12 a13 a14 : Cond} (h : ∀ w ∈ [a0, a1, a2, a3, a4, a5, a6, a7, a8, a9, a10, a11, a12, a13, a14], w ∈ T) : a0 ∈ T ∧ a1 ∈ T ∧ a2 ∈ T ∧ a3 ∈ T ∧ a4 ∈ T ∧ a5 ∈ T ∧ a6 ∈ T ∧ a7 ∈ T ∧ a8 ∈ T ∧ a9 ∈ T ∧ a10 ∈ T ∧ a11 ∈ T ∧ a12 ∈ T ∧ a13 ∈ T ∧ a14 ∈ T := ⟨h a0 (List.Mem.head _), h a1 (List.Mem.tail _ (List.Mem.head _)), h a2 (List.Mem.tail _ (List.Mem.tail _ (List.Mem.head _))), h a3 (List.Mem.tail _ (List.Mem.tail _ (List.Mem.tail _ (List.Mem.head _)))), h a4 (List.Mem.tail _ (List.Mem.tail _ (List.Mem.tail _ (List.Mem.tail _ (List.Mem.head _))))), h a5 (List.Mem.tail _ (List.Mem.tail _ (List.Mem.tail _ (List.Mem.tail _ (List.Mem.tail _ (List.Mem.head _)))))), h a6 (List.Mem.tail _ (List.Mem.tail _ (List.Mem.tail _ (List.Mem.tail _ (List.Mem.tail _ (List.Mem.tail _ (List.Mem.head _))))))), h a7 (List.Mem.tail _ (List.Mem.tail _ (List.Mem.tail _ (List.Mem.tail _ (List.Mem.tail _ (List.Mem.tail _ (List.Mem.tail _ (List.Mem.head _)))))))), h a8 (List.Mem.tail _ (List.Mem.tail _ (List.Mem.tail _ (List.Mem.tail _ (List.Mem.tail _ (List.Mem.tail _ (List.Mem.tail _ (List.Mem.tail _ (List.Mem.head _))))))))), h a9 (List.Mem.tail _ (List.Mem.tail _ (List.Mem.tail _ (List.Mem.tail _ (List.Mem.tail _ (List.Mem.tail _ (List.Mem.tail _ (List.Mem.tail _ (List.Mem.tail _ (List.Mem.head _)))))))))), h a10 (List.Mem.tail _ (List.Mem.tail _ (List.Mem.tail _ (List.Mem.tail _ (List.Mem.tail _ (List.Mem.tail _ (List.Mem.tail _ (List.Mem.tail _ (List.Mem.tail _ (List.Mem.tail _ (List.Mem.head _))))))))))), h a11 (List.Mem.tail _ (List.Mem.tail _ (List.Mem.tail _ (List.Mem.tail _ (List.Mem.tail _ (List.Mem.tail _ (List.Mem.tail _ (List.Mem.tail _ (List.Mem.tail _ (List.Mem.tail _ (List.Mem.tail _ (List.Mem.head _)))))))))))), h a12 (List.Mem.tail _ (List.Mem.tail _ (List.Mem.tail _ (List.Mem.tail _ (List.Mem.tail _ (List.Mem.tail _ (List.Mem.tail _ (List.Mem.tail _ (List.Mem.tail _ (List.Mem.tail _ (List.Mem.tail _ (List.Mem.tail _ (List.Mem.head _))))))))))))), h a13 (List.Mem.tail _ (List.Mem.tail _ (List.Mem.tail _ (List.Mem.tail _ (List.Mem.tail _ (List.Mem.tail _ (List.Mem.tail _ (List.Mem.tail _ (List.Mem.tail _ (List.Mem.tail _ (List.Mem.tail _ (List.Mem.tail _ (List.Mem.tail _ (List.Mem.head _)))))))))))))), h a14 (List.Mem.tail _ (List.Mem.tail _ (List.Mem.tail _ (List.Mem.tail _ (List.Mem.tail _ (List.Mem.tail _ (List.Mem.tail _ (List.Mem.tail _ (List.Mem.tail _ (List.Mem.tail _ (List.Mem.tail _ (List.Mem.tail _ (List.Mem.tail _ (List.Mem.tail _ (List.Mem.head _)))))))))))))))⟩
theorem zu_16 {T : List Cond} {a0 a1 a2 a3 a4 a5 a6 a7 a8 a9 a10 a11 a12 a13 a14 a15 : Cond} (h : ∀ w ∈ [a0, a1, a2, a3, a4, a5, a6, a7, a8, a9, a10, a11, a12, a13, a14, a15], w ∈ T) : a0 ∈ T ∧ a1 ∈ T ∧ a2 ∈ T ∧ a3 ∈ T ∧ a4 ∈ T ∧ a5 ∈ T ∧ a6 ∈ T ∧ a7 ∈ T ∧ a8 ∈ T ∧ a9 ∈ T ∧ a10 ∈ T ∧ a11 ∈ T ∧ a12 ∈ T ∧ a13 ∈ T ∧ a14 ∈ T ∧ a15 ∈ T := ⟨h a0 (List.Mem.head _), h a1 (List.Mem.tail _ (List.Mem.head _)), h a2 (List.Mem.tail _ (List.Mem.tail _ (List.Mem.head _))), h a3 (List.Mem.tail _ (List.Mem.tail _ (List.Mem.tail _ (List.Mem.head _)))), h a4 (List.Mem.tail _ (List.Mem.tail _ (List.Mem.tail _ (List.Mem.tail _ (List.Mem.head _))))), h a5 (List.Mem.tail _ (List.Mem.tail _ (List.Mem.tail _ (List.Mem.tail _ (List.Mem.tail _ (List.Mem.head _)))))), h a6 (List.Mem.tail _ (List.Mem.tail _ (List.Mem.tail _ (List.Mem.tail _ (List.Mem.tail _ (List.Mem.tail _ (List.Mem.head _))))))), h a7 (List.Mem.tail _ (List.Mem.tail _ (List.Mem.tail _ (List.Mem.tail _ (List.Mem.tail _ (List.Mem.tail _ (List.Mem.tail _ (List.Mem.head _)))))))), h a8 (List.Mem.tail _ (List.Mem.tail _ (List.Mem.tail _ (List.Mem.tail _ (List.Mem.tail _ (List.Mem.tail _ (List.Mem.tail _ (List.Mem.tail _ (List.Mem.head _))))))))), h a9 (List.Mem.tail _ (List.Mem.tail _ (List.Mem.tail _ (List.Mem.tail _ (List.Mem.tail _ (List.Mem.tail _ (List.Mem.tail _ (List.Mem.tail _ (List.Mem.tail _ (List.Mem.head _)))))))))), h a10 (List.Mem.tail _ (List.Mem.tail _ (List.Mem.tail _ (List.Mem.tail _ (List.Mem.tail _ (List.Mem.tail _ (List.Mem.tail _ (List.Mem.tail _ (List.Mem.tail _ (List.Mem.tail _ (List.Mem.head _))))))))))), h a11 (List.Mem.tail _ (List.Mem.tail _ (List.Mem.tail _ (List.Mem.tail _ (List.Mem.tail _ (List.Mem.tail _ (List.Mem.tail _ (List.Mem.tail _ (List.Mem.tail _ (List.Mem.tail _ (List.Mem.tail _ (List.Mem.head _)))))))))))), h a12 (List.Mem.tail _ (List.Mem.tail _ (List.Mem.tail _ (List.Mem.tail _ (List.Mem.tail _ (List.Mem.tail _ (List.Mem.tail _ (List.Mem.tail _ (List.Mem.tail _ (List.Mem.tail _ (List.Mem.tail _ (List.Mem.tail _ (List.Mem.head _))))))))))))), h a13 (List.Mem.tail _ (List.Mem.tail _ (List.Mem.tail _ (List.Mem.tail _ (List.Mem.tail _ (List.Mem.tail _ (List.Mem.tail _ (List.Mem.tail _ (List.Mem.tail _ (List.Mem.tail _ (List.Mem.tail _ (List.Mem.tail _ (List.Mem.tail _ (List.Mem.head _)))))))))))))), h a14 (List.Mem.tail _ (List.Mem.tail _ (List.Mem.tail _ (List.Mem.tail _ (List.Mem.tail _ (List.Mem.tail _ (List.Mem.tail _ (List.Mem.tail _ (List.Mem.tail _ (List.Mem.tail _ (List.Mem.tail _ (List.Mem.tail _ (List.Mem.tail _ (List.Mem.tail _ (List.Mem.head _))))))))))))))), h a15 (List.Mem.tail _ (List.Mem.tail _ (List.Mem.tail _ (List.Mem.tail _ (List.Mem.tail _ (List.Mem.tail _ (List.Mem.tail _ (List.Mem.tail _ (List.Mem.tail _ (List.Mem.tail _ (List.Mem.tail _ (List.Mem.tail _ (List.Mem.tail _ (List.Mem.tail _ (List.Mem.tail _ (List.Mem.head _))))))))))))))))⟩
theorem z_mt1 {w : Cond} (h : w ∈ tables_1_1) (hg : goodWord w = true) : w ∈ za_Ts := List.mem_filter.mpr ⟨List.mem_append_right _ (show w ∈ tables_1 from List.mem_append_left _ (h)), hg⟩
abbrev zl_1_0 : List Cond := [Jvm.Cond.initialized "LyndonBenchLaw", Jvm.Cond.initialized "LyndonBench", Jvm.Cond.initialized "LyndonBench$State", Jvm.Cond.initialized "LyndonBench$Word", Jvm.Cond.initialized "java/lang/Math", Jvm.Cond.initialized "LyndonBench$History", Jvm.Cond.initialized "LyndonBench$Script", Jvm.Cond.initialized "java/lang/String", Jvm.Cond.initialized "java/lang/StringLatin1", Jvm.Cond.initialized "jdk/internal/util/Preconditions", Jvm.Cond.initialized "java/lang/StringUTF16", Jvm.Cond.initialized "java/lang/Throwable", Jvm.Cond.initialized "java/lang/Exception", Jvm.Cond.initialized "java/lang/RuntimeException", Jvm.Cond.initialized "java/lang/IndexOutOfBoundsException", Jvm.Cond.initialized "java/lang/Integer"]
abbrev zl_1_1 : List Cond := [Jvm.Cond.initialized "java/lang/IllegalArgumentException", Jvm.Cond.initialized "java/lang/IllegalStateException", Jvm.Cond.classLink "LyndonBenchLaw" (8 : Nat) "LyndonBench", Jvm.Cond.instantiable "LyndonBench" (7 : Nat), Jvm.Cond.methodLink "LyndonBenchLaw" (139 : Nat) ({ cls := "LyndonBench", name := "<init>", desc := "()V" } : Jvm.MethodName), Jvm.Cond.instanceMethod ({ cls := "LyndonBench", name := "<init>", desc := "()V" } : Jvm.MethodName), Jvm.Cond.code ({ cls := "LyndonBench", name := "<init>", desc := "()V" } : Jvm.MethodName) prog_1_method_1_code (1 : Nat) (Option.none : Option Jvm.ClassFile.FieldType), Jvm.Cond.methodLink "LyndonBench" (3 : Nat) ({ cls := "java/lang/Object", name := "<init>", desc := "()V" } : Jvm.MethodName), Jvm.Cond.instanceMethod ({ cls := "java/lang/Object", name := "<init>", desc := "()V" } : Jvm.MethodName), Jvm.Cond.code ({ cls := "java/lang/Object", name := "<init>", desc := "()V" } : Jvm.MethodName) object_method_1_code (1 : Nat) (Option.none : Option Jvm.ClassFile.FieldType), Jvm.Cond.classLink "LyndonBench" (9 : Nat) "LyndonBench$State", Jvm.Cond.instantiable "LyndonBench$State" (4 : Nat), Jvm.Cond.methodLink "LyndonBench" (11 : Nat) ({ cls := "LyndonBench$State", name := "<init>", desc := "()V" } : Jvm.MethodName), Jvm.Cond.instanceMethod ({ cls := "LyndonBench$State", name := "<init>", desc := "()V" } : Jvm.MethodName), Jvm.Cond.code ({ cls := "LyndonBench$State", name := "<init>", desc := "()V" } : Jvm.MethodName) prog_6_method_1_code (2 : Nat) (Option.none : Option Jvm.ClassFile.FieldType), Jvm.Cond.methodLink "LyndonBench$State" (3 : Nat) ({ cls := "java/lang/Object", name := "<init>", desc := "()V" } : Jvm.MethodName)]
abbrev zl_1_2 : List Cond := [Jvm.Cond.classLink "LyndonBench$State" (15 : Nat) "LyndonBench$Word", Jvm.Cond.instantiable "LyndonBench$Word" (2 : Nat), Jvm.Cond.methodLink "LyndonBench$State" (17 : Nat) ({ cls := "LyndonBench$Word", name := "<init>", desc := "(I)V" } : Jvm.MethodName), Jvm.Cond.instanceMethod ({ cls := "LyndonBench$Word", name := "<init>", desc := "(I)V" } : Jvm.MethodName), Jvm.Cond.code ({ cls := "LyndonBench$Word", name := "<init>", desc := "(I)V" } : Jvm.MethodName) prog_7_method_1_code (2 : Nat) (Option.none : Option Jvm.ClassFile.FieldType), Jvm.Cond.methodLink "LyndonBench$Word" (3 : Nat) ({ cls := "java/lang/Object", name := "<init>", desc := "()V" } : Jvm.MethodName), Jvm.Cond.methodLink "LyndonBench$Word" (15 : Nat) ({ cls := "java/lang/Math", name := "max", desc := "(II)I" } : Jvm.MethodName), Jvm.Cond.static ({ cls := "java/lang/Math", name := "max", desc := "(II)I" } : Jvm.MethodName), Jvm.Cond.code ({ cls := "java/lang/Math", name := "max", desc := "(II)I" } : Jvm.MethodName) prog_15_method_65_code (2 : Nat) (Option.some Jvm.ClassFile.FieldType.int), Jvm.Cond.fieldLink "LyndonBench$Word" (21 : Nat) "LyndonBench$Word" "row" "[B", Jvm.Cond.fieldLink "LyndonBench$Word" (9 : Nat) "LyndonBench$Word" "size" "I", Jvm.Cond.fieldLink "LyndonBench$State" (42 : Nat) "LyndonBench$Word" "size" "I", Jvm.Cond.fieldLink "LyndonBench" (70 : Nat) "LyndonBench$Word" "size" "I", Jvm.Cond.laysFinal "LyndonBench$Word" "LyndonBench$Word" "row" "[B", Jvm.Cond.soleField "LyndonBench$Word" "row", Jvm.Cond.lays "LyndonBench$Word" "LyndonBench$Word" "size" "I"]
abbrev zl_1_3 : List Cond := [Jvm.Cond.soleField "LyndonBench$Word" "size", Jvm.Cond.superclass "LyndonBench$Word" "java/lang/Object", Jvm.Cond.arrayClass Jvm.ClassFile.FieldType.byte, Jvm.Cond.arrayOver (Jvm.ClassFile.FieldType.object "LyndonBench$Word"), Jvm.Cond.fieldLink "LyndonBench$State" (9 : Nat) "LyndonBench$State" "letterCount" "I", Jvm.Cond.fieldLink "LyndonBench" (113 : Nat) "LyndonBench$State" "letterCount" "I", Jvm.Cond.fieldLink "LyndonBench$State" (20 : Nat) "LyndonBench$State" "text" "LLyndonBench$Word;", Jvm.Cond.fieldLink "LyndonBench" (52 : Nat) "LyndonBench$State" "text" "LLyndonBench$Word;", Jvm.Cond.fieldLink "LyndonBench$State" (24 : Nat) "LyndonBench$State" "shelf" "[LLyndonBench$Word;", Jvm.Cond.fieldLink "LyndonBench$State" (28 : Nat) "LyndonBench$State" "keptWords" "I", Jvm.Cond.fieldLink "LyndonBench" (183 : Nat) "LyndonBench$State" "keptWords" "I", Jvm.Cond.lays "LyndonBench$State" "LyndonBench$State" "letterCount" "I", Jvm.Cond.soleField "LyndonBench$State" "letterCount", Jvm.Cond.laysFinal "LyndonBench$State" "LyndonBench$State" "text" "LLyndonBench$Word;", Jvm.Cond.soleField "LyndonBench$State" "text", Jvm.Cond.laysFinal "LyndonBench$State" "LyndonBench$State" "shelf" "[LLyndonBench$Word;"]
abbrev zl_1_4 : List Cond := [Jvm.Cond.soleField "LyndonBench$State" "shelf", Jvm.Cond.lays "LyndonBench$State" "LyndonBench$State" "keptWords" "I", Jvm.Cond.soleField "LyndonBench$State" "keptWords", Jvm.Cond.superclass "LyndonBench$State" "java/lang/Object", Jvm.Cond.classLink "LyndonBench" (16 : Nat) "LyndonBench$History", Jvm.Cond.instantiable "LyndonBench$History" (2 : Nat), Jvm.Cond.methodLink "LyndonBench" (18 : Nat) ({ cls := "LyndonBench$History", name := "<init>", desc := "()V" } : Jvm.MethodName), Jvm.Cond.instanceMethod ({ cls := "LyndonBench$History", name := "<init>", desc := "()V" } : Jvm.MethodName), Jvm.Cond.code ({ cls := "LyndonBench$History", name := "<init>", desc := "()V" } : Jvm.MethodName) prog_4_method_1_code (2 : Nat) (Option.none : Option Jvm.ClassFile.FieldType), Jvm.Cond.methodLink "LyndonBench$History" (3 : Nat) ({ cls := "java/lang/Object", name := "<init>", desc := "()V" } : Jvm.MethodName), Jvm.Cond.classLink "LyndonBench$History" (9 : Nat) "LyndonBench$State", Jvm.Cond.arrayOver (Jvm.ClassFile.FieldType.object "LyndonBench$State"), Jvm.Cond.methodLink "LyndonBench$History" (21 : Nat) ({ cls := "LyndonBench$State", name := "<init>", desc := "()V" } : Jvm.MethodName), Jvm.Cond.fieldLink "LyndonBench$History" (11 : Nat) "LyndonBench$History" "states" "[LLyndonBench$State;", Jvm.Cond.fieldLink "LyndonBench$History" (17 : Nat) "LyndonBench$History" "count" "I", Jvm.Cond.fieldLink "LyndonBench" (212 : Nat) "LyndonBench$History" "count" "I"]
abbrev zl_1_5 : List Cond := [Jvm.Cond.laysFinal "LyndonBench$History" "LyndonBench$History" "states" "[LLyndonBench$State;", Jvm.Cond.soleField "LyndonBench$History" "states", Jvm.Cond.lays "LyndonBench$History" "LyndonBench$History" "count" "I", Jvm.Cond.soleField "LyndonBench$History" "count", Jvm.Cond.superclass "LyndonBench$History" "java/lang/Object", Jvm.Cond.classLink "LyndonBench" (30 : Nat) "LyndonBench$Script", Jvm.Cond.instantiable "LyndonBench$Script" (12 : Nat), Jvm.Cond.methodLinkNest "LyndonBench" (32 : Nat) ({ cls := "LyndonBench$Script", name := "<init>", desc := "()V" } : Jvm.MethodName) "LyndonBench", Jvm.Cond.instanceMethod ({ cls := "LyndonBench$Script", name := "<init>", desc := "()V" } : Jvm.MethodName), Jvm.Cond.code ({ cls := "LyndonBench$Script", name := "<init>", desc := "()V" } : Jvm.MethodName) prog_5_method_1_code (1 : Nat) (Option.none : Option Jvm.ClassFile.FieldType), Jvm.Cond.methodLink "LyndonBench$Script" (3 : Nat) ({ cls := "java/lang/Object", name := "<init>", desc := "()V" } : Jvm.MethodName), Jvm.Cond.classLink "LyndonBench$Script" (9 : Nat) "LyndonBench$Word", Jvm.Cond.methodLink "LyndonBench$Script" (11 : Nat) ({ cls := "LyndonBench$Word", name := "<init>", desc := "(I)V" } : Jvm.MethodName), Jvm.Cond.classLink "LyndonBench$Script" (20 : Nat) "LyndonBench$State", Jvm.Cond.methodLink "LyndonBench$Script" (22 : Nat) ({ cls := "LyndonBench$State", name := "<init>", desc := "()V" } : Jvm.MethodName), Jvm.Cond.fieldLink "LyndonBench$Script" (14 : Nat) "LyndonBench$Script" "source" "LLyndonBench$Word;"]
abbrev zl_1_6 : List Cond := [Jvm.Cond.fieldLink "LyndonBench$Script" (23 : Nat) "LyndonBench$Script" "state" "LLyndonBench$State;", Jvm.Cond.fieldLink "LyndonBench$Script" (27 : Nat) "LyndonBench$Script" "errorKind" "I", Jvm.Cond.fieldLink "LyndonBench$Script" (31 : Nat) "LyndonBench$Script" "errorOffset" "I", Jvm.Cond.fieldLink "LyndonBench$Script" (34 : Nat) "LyndonBench$Script" "token" "I", Jvm.Cond.fieldLink "LyndonBench$Script" (37 : Nat) "LyndonBench$Script" "tokenStart" "I", Jvm.Cond.fieldLink "LyndonBench$Script" (40 : Nat) "LyndonBench$Script" "position" "I", Jvm.Cond.fieldLink "LyndonBench$Script" (43 : Nat) "LyndonBench$Script" "number" "I", Jvm.Cond.fieldLink "LyndonBench$Script" (46 : Nat) "LyndonBench$Script" "executed" "I", Jvm.Cond.fieldLink "LyndonBench$Script" (49 : Nat) "LyndonBench$Script" "nesting" "I", Jvm.Cond.fieldLink "LyndonBench$Script" (52 : Nat) "LyndonBench$Script" "bodies" "[I", Jvm.Cond.fieldLink "LyndonBench$Script" (56 : Nat) "LyndonBench$Script" "rounds" "[I", Jvm.Cond.laysFinal "LyndonBench$Script" "LyndonBench$Script" "source" "LLyndonBench$Word;", Jvm.Cond.soleField "LyndonBench$Script" "source", Jvm.Cond.laysFinal "LyndonBench$Script" "LyndonBench$Script" "state" "LLyndonBench$State;", Jvm.Cond.soleField "LyndonBench$Script" "state", Jvm.Cond.lays "LyndonBench$Script" "LyndonBench$Script" "errorKind" "I"]
abbrev zl_1_7 : List Cond := [Jvm.Cond.soleField "LyndonBench$Script" "errorKind", Jvm.Cond.lays "LyndonBench$Script" "LyndonBench$Script" "errorOffset" "I", Jvm.Cond.soleField "LyndonBench$Script" "errorOffset", Jvm.Cond.lays "LyndonBench$Script" "LyndonBench$Script" "token" "I", Jvm.Cond.soleField "LyndonBench$Script" "token", Jvm.Cond.lays "LyndonBench$Script" "LyndonBench$Script" "tokenStart" "I", Jvm.Cond.soleField "LyndonBench$Script" "tokenStart", Jvm.Cond.lays "LyndonBench$Script" "LyndonBench$Script" "position" "I", Jvm.Cond.soleField "LyndonBench$Script" "position", Jvm.Cond.lays "LyndonBench$Script" "LyndonBench$Script" "number" "I", Jvm.Cond.soleField "LyndonBench$Script" "number", Jvm.Cond.lays "LyndonBench$Script" "LyndonBench$Script" "executed" "I", Jvm.Cond.soleField "LyndonBench$Script" "executed", Jvm.Cond.lays "LyndonBench$Script" "LyndonBench$Script" "nesting" "I", Jvm.Cond.soleField "LyndonBench$Script" "nesting", Jvm.Cond.laysFinal "LyndonBench$Script" "LyndonBench$Script" "bodies" "[I"]
abbrev zl_1_8 : List Cond := [Jvm.Cond.soleField "LyndonBench$Script" "bodies", Jvm.Cond.laysFinal "LyndonBench$Script" "LyndonBench$Script" "rounds" "[I", Jvm.Cond.soleField "LyndonBench$Script" "rounds", Jvm.Cond.superclass "LyndonBench$Script" "java/lang/Object", Jvm.Cond.arrayClass Jvm.ClassFile.FieldType.int, Jvm.Cond.classLink "LyndonBench" (37 : Nat) "LyndonBench$Word", Jvm.Cond.methodLink "LyndonBench" (39 : Nat) ({ cls := "LyndonBench$Word", name := "<init>", desc := "(I)V" } : Jvm.MethodName), Jvm.Cond.methodLink "LyndonBench" (49 : Nat) ({ cls := "LyndonBench$State", name := "clear", desc := "(I)V" } : Jvm.MethodName), Jvm.Cond.instanceMethod ({ cls := "LyndonBench$State", name := "clear", desc := "(I)V" } : Jvm.MethodName), Jvm.Cond.selects "LyndonBench$State" ({ cls := "LyndonBench$State", name := "clear", desc := "(I)V" } : Jvm.MethodName) ({ cls := "LyndonBench$State", name := "clear", desc := "(I)V" } : Jvm.MethodName), Jvm.Cond.code ({ cls := "LyndonBench$State", name := "clear", desc := "(I)V" } : Jvm.MethodName) prog_6_method_2_code (2 : Nat) (Option.none : Option Jvm.ClassFile.FieldType), Jvm.Cond.methodLink "LyndonBench$State" (31 : Nat) ({ cls := "LyndonBench$Word", name := "clear", desc := "()V" } : Jvm.MethodName), Jvm.Cond.instanceMethod ({ cls := "LyndonBench$Word", name := "clear", desc := "()V" } : Jvm.MethodName), Jvm.Cond.selects "LyndonBench$Word" ({ cls := "LyndonBench$Word", name := "clear", desc := "()V" } : Jvm.MethodName) ({ cls := "LyndonBench$Word", name := "clear", desc := "()V" } : Jvm.MethodName), Jvm.Cond.code ({ cls := "LyndonBench$Word", name := "clear", desc := "()V" } : Jvm.MethodName) prog_7_method_4_code (1 : Nat) (Option.none : Option Jvm.ClassFile.FieldType), Jvm.Cond.stringRef "LyndonBench" (55 : Nat) "acabaabaccabab"]
abbrev zl_1_9 : List Cond := [Jvm.Cond.methodLink "LyndonBench" (57 : Nat) ({ cls := "LyndonBench$Word", name := "addString", desc := "(Ljava/lang/String;)V" } : Jvm.MethodName), Jvm.Cond.instanceMethod ({ cls := "LyndonBench$Word", name := "addString", desc := "(Ljava/lang/String;)V" } : Jvm.MethodName), Jvm.Cond.selects "LyndonBench$Word" ({ cls := "LyndonBench$Word", name := "addString", desc := "(Ljava/lang/String;)V" } : Jvm.MethodName) ({ cls := "LyndonBench$Word", name := "addString", desc := "(Ljava/lang/String;)V" } : Jvm.MethodName), Jvm.Cond.code ({ cls := "LyndonBench$Word", name := "addString", desc := "(Ljava/lang/String;)V" } : Jvm.MethodName) prog_7_method_7_code (3 : Nat) (Option.none : Option Jvm.ClassFile.FieldType), Jvm.Cond.methodLink "LyndonBench$Word" (29 : Nat) ({ cls := "java/lang/String", name := "length", desc := "()I" } : Jvm.MethodName), Jvm.Cond.instanceMethod ({ cls := "java/lang/String", name := "length", desc := "()I" } : Jvm.MethodName), Jvm.Cond.selects "java/lang/String" ({ cls := "java/lang/String", name := "length", desc := "()I" } : Jvm.MethodName) ({ cls := "java/lang/String", name := "length", desc := "()I" } : Jvm.MethodName), Jvm.Cond.code ({ cls := "java/lang/String", name := "length", desc := "()I" } : Jvm.MethodName) prog_17_method_54_code (1 : Nat) (Option.some Jvm.ClassFile.FieldType.int), Jvm.Cond.methodLink "java/lang/String" (335 : Nat) ({ cls := "java/lang/String", name := "coder", desc := "()B" } : Jvm.MethodName), Jvm.Cond.instanceMethod ({ cls := "java/lang/String", name := "coder", desc := "()B" } : Jvm.MethodName), Jvm.Cond.selects "java/lang/String" ({ cls := "java/lang/String", name := "coder", desc := "()B" } : Jvm.MethodName) ({ cls := "java/lang/String", name := "coder", desc := "()B" } : Jvm.MethodName), Jvm.Cond.code ({ cls := "java/lang/String", name := "coder", desc := "()B" } : Jvm.MethodName) prog_17_method_152_code (1 : Nat) (Option.some Jvm.ClassFile.FieldType.byte), Jvm.Cond.fieldLink "java/lang/String" (38 : Nat) "java/lang/String" "COMPACT_STRINGS" "Z", Jvm.Cond.laysStatic "java/lang/String" "COMPACT_STRINGS" "Z", Jvm.Cond.methodLink "LyndonBench$Word" (35 : Nat) ({ cls := "java/lang/String", name := "charAt", desc := "(I)C" } : Jvm.MethodName), Jvm.Cond.instanceMethod ({ cls := "java/lang/String", name := "charAt", desc := "(I)C" } : Jvm.MethodName)]
abbrev zl_1_10 : List Cond := [Jvm.Cond.selects "java/lang/String" ({ cls := "java/lang/String", name := "charAt", desc := "(I)C" } : Jvm.MethodName) ({ cls := "java/lang/String", name := "charAt", desc := "(I)C" } : Jvm.MethodName), Jvm.Cond.code ({ cls := "java/lang/String", name := "charAt", desc := "(I)C" } : Jvm.MethodName) prog_17_method_56_code (2 : Nat) (Option.some Jvm.ClassFile.FieldType.char), Jvm.Cond.methodLink "java/lang/String" (492 : Nat) ({ cls := "java/lang/String", name := "isLatin1", desc := "()Z" } : Jvm.MethodName), Jvm.Cond.instanceMethod ({ cls := "java/lang/String", name := "isLatin1", desc := "()Z" } : Jvm.MethodName), Jvm.Cond.selects "java/lang/String" ({ cls := "java/lang/String", name := "isLatin1", desc := "()Z" } : Jvm.MethodName) ({ cls := "java/lang/String", name := "isLatin1", desc := "()Z" } : Jvm.MethodName), Jvm.Cond.code ({ cls := "java/lang/String", name := "isLatin1", desc := "()Z" } : Jvm.MethodName) prog_17_method_154_code (1 : Nat) (Option.some Jvm.ClassFile.FieldType.boolean), Jvm.Cond.methodLink "java/lang/String" (495 : Nat) ({ cls := "java/lang/StringLatin1", name := "charAt", desc := "([BI)C" } : Jvm.MethodName), Jvm.Cond.static ({ cls := "java/lang/StringLatin1", name := "charAt", desc := "([BI)C" } : Jvm.MethodName), Jvm.Cond.code ({ cls := "java/lang/StringLatin1", name := "charAt", desc := "([BI)C" } : Jvm.MethodName) prog_18_method_2_code (2 : Nat) (Option.some Jvm.ClassFile.FieldType.char), Jvm.Cond.methodLink "java/lang/StringLatin1" (9 : Nat) ({ cls := "java/lang/String", name := "checkIndex", desc := "(II)V" } : Jvm.MethodName), Jvm.Cond.static ({ cls := "java/lang/String", name := "checkIndex", desc := "(II)V" } : Jvm.MethodName), Jvm.Cond.code ({ cls := "java/lang/String", name := "checkIndex", desc := "(II)V" } : Jvm.MethodName) prog_17_method_155_code (2 : Nat) (Option.none : Option Jvm.ClassFile.FieldType), Jvm.Cond.fieldLink "java/lang/String" (1053 : Nat) "jdk/internal/util/Preconditions" "SIOOBE_FORMATTER" "Ljava/util/function/BiFunction;", Jvm.Cond.laysStatic "jdk/internal/util/Preconditions" "SIOOBE_FORMATTER" "Ljava/util/function/BiFunction;", Jvm.Cond.methodLink "java/lang/String" (1059 : Nat) ({ cls := "jdk/internal/util/Preconditions", name := "checkIndex", desc := "(IILjava/util/function/BiFunction;)I" } : Jvm.MethodName), Jvm.Cond.static ({ cls := "jdk/internal/util/Preconditions", name := "checkIndex", desc := "(IILjava/util/function/BiFunction;)I" } : Jvm.MethodName)]
abbrev zl_1_11 : List Cond := [Jvm.Cond.code ({ cls := "jdk/internal/util/Preconditions", name := "checkIndex", desc := "(IILjava/util/function/BiFunction;)I" } : Jvm.MethodName) prog_21_method_11_code (3 : Nat) (Option.some Jvm.ClassFile.FieldType.int), Jvm.Cond.methodLink "java/lang/String" (498 : Nat) ({ cls := "java/lang/StringUTF16", name := "charAt", desc := "([BI)C" } : Jvm.MethodName), Jvm.Cond.static ({ cls := "java/lang/StringUTF16", name := "charAt", desc := "([BI)C" } : Jvm.MethodName), Jvm.Cond.code ({ cls := "java/lang/StringUTF16", name := "charAt", desc := "([BI)C" } : Jvm.MethodName) prog_19_method_83_code (2 : Nat) (Option.some Jvm.ClassFile.FieldType.char), Jvm.Cond.methodLink "java/lang/StringUTF16" (67 : Nat) ({ cls := "java/lang/StringUTF16", name := "checkIndex", desc := "(I[B)V" } : Jvm.MethodName), Jvm.Cond.static ({ cls := "java/lang/StringUTF16", name := "checkIndex", desc := "(I[B)V" } : Jvm.MethodName), Jvm.Cond.code ({ cls := "java/lang/StringUTF16", name := "checkIndex", desc := "(I[B)V" } : Jvm.MethodName) prog_19_method_91_code (2 : Nat) (Option.none : Option Jvm.ClassFile.FieldType), Jvm.Cond.methodLink "java/lang/StringUTF16" (48 : Nat) ({ cls := "java/lang/StringUTF16", name := "length", desc := "([B)I" } : Jvm.MethodName), Jvm.Cond.static ({ cls := "java/lang/StringUTF16", name := "length", desc := "([B)I" } : Jvm.MethodName), Jvm.Cond.code ({ cls := "java/lang/StringUTF16", name := "length", desc := "([B)I" } : Jvm.MethodName) prog_19_method_6_code (1 : Nat) (Option.some Jvm.ClassFile.FieldType.int), Jvm.Cond.methodLink "java/lang/StringUTF16" (414 : Nat) ({ cls := "java/lang/String", name := "checkIndex", desc := "(II)V" } : Jvm.MethodName), Jvm.Cond.methodLink "java/lang/StringUTF16" (71 : Nat) ({ cls := "java/lang/StringUTF16", name := "getChar", desc := "([BI)C" } : Jvm.MethodName), Jvm.Cond.static ({ cls := "java/lang/StringUTF16", name := "getChar", desc := "([BI)C" } : Jvm.MethodName), Jvm.Cond.code ({ cls := "java/lang/StringUTF16", name := "getChar", desc := "([BI)C" } : Jvm.MethodName) prog_19_method_5_code (2 : Nat) (Option.some Jvm.ClassFile.FieldType.char), Jvm.Cond.fieldLink "java/lang/StringUTF16" (44 : Nat) "java/lang/StringUTF16" "$assertionsDisabled" "Z", Jvm.Cond.laysStatic "java/lang/StringUTF16" "$assertionsDisabled" "Z"]
abbrev zl_1_12 : List Cond := [Jvm.Cond.fieldLink "java/lang/StringUTF16" (59 : Nat) "java/lang/StringUTF16" "HI_BYTE_SHIFT" "I", Jvm.Cond.laysStatic "java/lang/StringUTF16" "HI_BYTE_SHIFT" "I", Jvm.Cond.fieldLink "java/lang/StringUTF16" (63 : Nat) "java/lang/StringUTF16" "LO_BYTE_SHIFT" "I", Jvm.Cond.laysStatic "java/lang/StringUTF16" "LO_BYTE_SHIFT" "I", Jvm.Cond.methodLink "LyndonBench$Word" (25 : Nat) ({ cls := "LyndonBench$Word", name := "add", desc := "(I)V" } : Jvm.MethodName), Jvm.Cond.instanceMethod ({ cls := "LyndonBench$Word", name := "add", desc := "(I)V" } : Jvm.MethodName), Jvm.Cond.selects "LyndonBench$Word" ({ cls := "LyndonBench$Word", name := "add", desc := "(I)V" } : Jvm.MethodName) ({ cls := "LyndonBench$Word", name := "add", desc := "(I)V" } : Jvm.MethodName), Jvm.Cond.code ({ cls := "LyndonBench$Word", name := "add", desc := "(I)V" } : Jvm.MethodName) prog_7_method_5_code (2 : Nat) (Option.none : Option Jvm.ClassFile.FieldType), Jvm.Cond.stringRef "LyndonBench" (61 : Nat) "abacab", Jvm.Cond.methodLink "LyndonBench" (63 : Nat) ({ cls := "LyndonBench$State", name := "keep", desc := "(LLyndonBench$Word;II)V" } : Jvm.MethodName), Jvm.Cond.instanceMethod ({ cls := "LyndonBench$State", name := "keep", desc := "(LLyndonBench$Word;II)V" } : Jvm.MethodName), Jvm.Cond.selects "LyndonBench$State" ({ cls := "LyndonBench$State", name := "keep", desc := "(LLyndonBench$Word;II)V" } : Jvm.MethodName) ({ cls := "LyndonBench$State", name := "keep", desc := "(LLyndonBench$Word;II)V" } : Jvm.MethodName), Jvm.Cond.code ({ cls := "LyndonBench$State", name := "keep", desc := "(LLyndonBench$Word;II)V" } : Jvm.MethodName) prog_6_method_9_code (5 : Nat) (Option.none : Option Jvm.ClassFile.FieldType), Jvm.Cond.methodLink "LyndonBench$State" (53 : Nat) ({ cls := "LyndonBench$Word", name := "addPart", desc := "(LLyndonBench$Word;II)V" } : Jvm.MethodName), Jvm.Cond.instanceMethod ({ cls := "LyndonBench$Word", name := "addPart", desc := "(LLyndonBench$Word;II)V" } : Jvm.MethodName), Jvm.Cond.selects "LyndonBench$Word" ({ cls := "LyndonBench$Word", name := "addPart", desc := "(LLyndonBench$Word;II)V" } : Jvm.MethodName) ({ cls := "LyndonBench$Word", name := "addPart", desc := "(LLyndonBench$Word;II)V" } : Jvm.MethodName)]
abbrev zl_1_13 : List Cond := [Jvm.Cond.code ({ cls := "LyndonBench$Word", name := "addPart", desc := "(LLyndonBench$Word;II)V" } : Jvm.MethodName) prog_7_method_8_code (5 : Nat) (Option.none : Option Jvm.ClassFile.FieldType), Jvm.Cond.methodLink "LyndonBench$Word" (39 : Nat) ({ cls := "LyndonBench$Word", name := "at", desc := "(I)I" } : Jvm.MethodName), Jvm.Cond.instanceMethod ({ cls := "LyndonBench$Word", name := "at", desc := "(I)I" } : Jvm.MethodName), Jvm.Cond.selects "LyndonBench$Word" ({ cls := "LyndonBench$Word", name := "at", desc := "(I)I" } : Jvm.MethodName) ({ cls := "LyndonBench$Word", name := "at", desc := "(I)I" } : Jvm.MethodName), Jvm.Cond.code ({ cls := "LyndonBench$Word", name := "at", desc := "(I)I" } : Jvm.MethodName) prog_7_method_2_code (2 : Nat) (Option.some Jvm.ClassFile.FieldType.int), Jvm.Cond.fieldLink "LyndonBench" (12 : Nat) "LyndonBench" "now" "LLyndonBench$State;", Jvm.Cond.fieldLink "LyndonBench" (19 : Nat) "LyndonBench" "history" "LLyndonBench$History;", Jvm.Cond.fieldLink "LyndonBench" (23 : Nat) "LyndonBench" "snapshot" "LLyndonBench$State;", Jvm.Cond.fieldLink "LyndonBench" (26 : Nat) "LyndonBench" "snapshotSaved" "Z", Jvm.Cond.fieldLink "LyndonBench" (33 : Nat) "LyndonBench" "script" "LLyndonBench$Script;", Jvm.Cond.fieldLink "LyndonBench" (42 : Nat) "LyndonBench" "report" "LLyndonBench$Word;", Jvm.Cond.fieldLink "LyndonBench" (46 : Nat) "LyndonBench" "trial" "LLyndonBench$Word;", Jvm.Cond.laysFinal "LyndonBench" "LyndonBench" "now" "LLyndonBench$State;", Jvm.Cond.soleField "LyndonBench" "now", Jvm.Cond.laysFinal "LyndonBench" "LyndonBench" "history" "LLyndonBench$History;", Jvm.Cond.soleField "LyndonBench" "history"]
abbrev zl_1_14 : List Cond := [Jvm.Cond.laysFinal "LyndonBench" "LyndonBench" "snapshot" "LLyndonBench$State;", Jvm.Cond.soleField "LyndonBench" "snapshot", Jvm.Cond.lays "LyndonBench" "LyndonBench" "snapshotSaved" "Z", Jvm.Cond.soleField "LyndonBench" "snapshotSaved", Jvm.Cond.laysFinal "LyndonBench" "LyndonBench" "script" "LLyndonBench$Script;", Jvm.Cond.soleField "LyndonBench" "script", Jvm.Cond.laysFinal "LyndonBench" "LyndonBench" "report" "LLyndonBench$Word;", Jvm.Cond.soleField "LyndonBench" "report", Jvm.Cond.laysFinal "LyndonBench" "LyndonBench" "trial" "LLyndonBench$Word;", Jvm.Cond.soleField "LyndonBench" "trial", Jvm.Cond.superclass "LyndonBench" "java/lang/Object", Jvm.Cond.methodLink "LyndonBenchLaw" (136 : Nat) ({ cls := "LyndonBench", name := "undo", desc := "()I" } : Jvm.MethodName), Jvm.Cond.instanceMethod ({ cls := "LyndonBench", name := "undo", desc := "()I" } : Jvm.MethodName), Jvm.Cond.selects "LyndonBench" ({ cls := "LyndonBench", name := "undo", desc := "()I" } : Jvm.MethodName) ({ cls := "LyndonBench", name := "undo", desc := "()I" } : Jvm.MethodName), Jvm.Cond.code ({ cls := "LyndonBench", name := "undo", desc := "()I" } : Jvm.MethodName) prog_1_method_18_code (1 : Nat) (Option.some Jvm.ClassFile.FieldType.int), Jvm.Cond.methodLink "LyndonBench" (208 : Nat) ({ cls := "LyndonBench$History", name := "bringBack", desc := "(LLyndonBench$State;)Z" } : Jvm.MethodName)]
set_option maxRecDepth 100000 in
theorem ztq_1 : tables_1_1 = zl_1_0 ++ (zl_1_1 ++ (zl_1_2 ++ (zl_1_3 ++ (zl_1_4 ++ (zl_1_5 ++ (zl_1_6 ++ (zl_1_7 ++ (zl_1_8 ++ (zl_1_9 ++ (zl_1_10 ++ (zl_1_11 ++ (zl_1_12 ++ (zl_1_13 ++ (zl_1_14)))))))))))))) := rfl
theorem zls_1_0 : ∀ w ∈ zl_1_0, w ∈ tables_1_1 := fun w hw => by
  rw [ztq_1]
  exact List.mem_append_left _ hw
def zlt_1_0 := zu_16 zls_1_0
theorem zls_1_1 : ∀ w ∈ zl_1_1, w ∈ tables_1_1 := fun w hw => by
  rw [ztq_1]
  exact List.mem_append_right _ (List.mem_append_left _ hw)
def zlt_1_1 := zu_16 zls_1_1
theorem zls_1_2 : ∀ w ∈ zl_1_2, w ∈ tables_1_1 := fun w hw => by
  rw [ztq_1]
  exact List.mem_append_right _ (List.mem_append_right _ (List.mem_append_left _ hw))
def zlt_1_2 := zu_16 zls_1_2
theorem zls_1_3 : ∀ w ∈ zl_1_3, w ∈ tables_1_1 := fun w hw => by
  rw [ztq_1]
  exact List.mem_append_right _ (List.mem_append_right _ (List.mem_append_right _ (List.mem_append_left _ hw)))
def zlt_1_3 := zu_16 zls_1_3
theorem zls_1_4 : ∀ w ∈ zl_1_4, w ∈ tables_1_1 := fun w hw => by
  rw [ztq_1]
  exact List.mem_append_right _ (List.mem_append_right _ (List.mem_append_right _ (List.mem_append_right _ (List.mem_append_left _ hw))))
def zlt_1_4 := zu_16 zls_1_4
theorem zls_1_5 : ∀ w ∈ zl_1_5, w ∈ tables_1_1 := fun w hw => by
  rw [ztq_1]
  exact List.mem_append_right _ (List.mem_append_right _ (List.mem_append_right _ (List.mem_append_right _ (List.mem_append_right _ (List.mem_append_left _ hw)))))
def zlt_1_5 := zu_16 zls_1_5
theorem zls_1_6 : ∀ w ∈ zl_1_6, w ∈ tables_1_1 := fun w hw => by
  rw [ztq_1]
  exact List.mem_append_right _ (List.mem_append_right _ (List.mem_append_right _ (List.mem_append_right _ (List.mem_append_right _ (List.mem_append_right _ (List.mem_append_left _ hw))))))
def zlt_1_6 := zu_16 zls_1_6
theorem zls_1_7 : ∀ w ∈ zl_1_7, w ∈ tables_1_1 := fun w hw => by
  rw [ztq_1]
  exact List.mem_append_right _ (List.mem_append_right _ (List.mem_append_right _ (List.mem_append_right _ (List.mem_append_right _ (List.mem_append_right _ (List.mem_append_right _ (List.mem_append_left _ hw)))))))
def zlt_1_7 := zu_16 zls_1_7
theorem zls_1_8 : ∀ w ∈ zl_1_8, w ∈ tables_1_1 := fun w hw => by
  rw [ztq_1]
  exact List.mem_append_right _ (List.mem_append_right _ (List.mem_append_right _ (List.mem_append_right _ (List.mem_append_right _ (List.mem_append_right _ (List.mem_append_right _ (List.mem_append_right _ (List.mem_append_left _ hw))))))))
def zlt_1_8 := zu_16 zls_1_8
theorem zls_1_9 : ∀ w ∈ zl_1_9, w ∈ tables_1_1 := fun w hw => by
  rw [ztq_1]
  exact List.mem_append_right _ (List.mem_append_right _ (List.mem_append_right _ (List.mem_append_right _ (List.mem_append_right _ (List.mem_append_right _ (List.mem_append_right _ (List.mem_append_right _ (List.mem_append_right _ (List.mem_append_left _ hw)))))))))
def zlt_1_9 := zu_16 zls_1_9
theorem zls_1_10 : ∀ w ∈ zl_1_10, w ∈ tables_1_1 := fun w hw => by
  rw [ztq_1]
  exact List.mem_append_right _ (List.mem_append_right _ (List.mem_append_right _ (List.mem_append_right _ (List.mem_append_right _ (List.mem_append_right _ (List.mem_append_right _ (List.mem_append_right _ (List.mem_append_right _ (List.mem_append_right _ (List.mem_append_left _ hw))))))))))
def zlt_1_10 := zu_16 zls_1_10
theorem zls_1_11 : ∀ w ∈ zl_1_11, w ∈ tables_1_1 := fun w hw => by
  rw [ztq_1]
  exact List.mem_append_right _ (List.mem_append_right _ (List.mem_append_right _ (List.mem_append_right _ (List.mem_append_right _ (List.mem_append_right _ (List.mem_append_right _ (List.mem_append_right _ (List.mem_append_right _ (List.mem_append_right _ (List.mem_append_right _ (List.mem_append_left _ hw)))))))))))
def zlt_1_11 := zu_16 zls_1_11
theorem zls_1_12 : ∀ w ∈ zl_1_12, w ∈ tables_1_1 := fun w hw => by
  rw [ztq_1]
  exact List.mem_append_right _ (List.mem_append_right _ (List.mem_append_right _ (List.mem_append_right _ (List.mem_append_right _ (List.mem_append_right _ (List.mem_append_right _ (List.mem_append_right _ (List.mem_append_right _ (List.mem_append_right _ (List.mem_append_right _ (List.mem_append_right _ (List.mem_append_left _ hw))))))))))))
def zlt_1_12 := zu_16 zls_1_12
theorem zls_1_13 : ∀ w ∈ zl_1_13, w ∈ tables_1_1 := fun w hw => by
  rw [ztq_1]
  exact List.mem_append_right _ (List.mem_append_right _ (List.mem_append_right _ (List.mem_append_right _ (List.mem_append_right _ (List.mem_append_right _ (List.mem_append_right _ (List.mem_append_right _ (List.mem_append_right _ (List.mem_append_right _ (List.mem_append_right _ (List.mem_append_right _ (List.mem_append_right _ (List.mem_append_left _ hw)))))))))))))
def zlt_1_13 := zu_16 zls_1_13
theorem zls_1_14 : ∀ w ∈ zl_1_14, w ∈ tables_1_1 := fun w hw => by
  rw [ztq_1]
  exact List.mem_append_right _ (List.mem_append_right _ (List.mem_append_right _ (List.mem_append_right _ (List.mem_append_right _ (List.mem_append_right _ (List.mem_append_right _ (List.mem_append_right _ (List.mem_append_right _ (List.mem_append_right _ (List.mem_append_right _ (List.mem_append_right _ (List.mem_append_right _ (List.mem_append_right _ (hw))))))))))))))
def zlt_1_14 := zu_16 zls_1_14
theorem z_mt2 {w : Cond} (h : w ∈ tables_1_2) (hg : goodWord w = true) : w ∈ za_Ts := List.mem_filter.mpr ⟨List.mem_append_right _ (show w ∈ tables_1 from List.mem_append_right _ (List.mem_append_left _ (h))), hg⟩
abbrev zl_2_0 : List Cond := [Jvm.Cond.instanceMethod ({ cls := "LyndonBench$History", name := "bringBack", desc := "(LLyndonBench$State;)Z" } : Jvm.MethodName), Jvm.Cond.selects "LyndonBench$History" ({ cls := "LyndonBench$History", name := "bringBack", desc := "(LLyndonBench$State;)Z" } : Jvm.MethodName) ({ cls := "LyndonBench$History", name := "bringBack", desc := "(LLyndonBench$State;)Z" } : Jvm.MethodName), Jvm.Cond.code ({ cls := "LyndonBench$History", name := "bringBack", desc := "(LLyndonBench$State;)Z" } : Jvm.MethodName) prog_4_method_4_code (2 : Nat) (Option.some Jvm.ClassFile.FieldType.boolean), Jvm.Cond.methodLink "LyndonBench$History" (25 : Nat) ({ cls := "LyndonBench$State", name := "copyFrom", desc := "(LLyndonBench$State;)V" } : Jvm.MethodName), Jvm.Cond.instanceMethod ({ cls := "LyndonBench$State", name := "copyFrom", desc := "(LLyndonBench$State;)V" } : Jvm.MethodName), Jvm.Cond.selects "LyndonBench$State" ({ cls := "LyndonBench$State", name := "copyFrom", desc := "(LLyndonBench$State;)V" } : Jvm.MethodName) ({ cls := "LyndonBench$State", name := "copyFrom", desc := "(LLyndonBench$State;)V" } : Jvm.MethodName), Jvm.Cond.code ({ cls := "LyndonBench$State", name := "copyFrom", desc := "(LLyndonBench$State;)V" } : Jvm.MethodName) prog_6_method_3_code (4 : Nat) (Option.none : Option Jvm.ClassFile.FieldType), Jvm.Cond.methodLink "LyndonBench$State" (34 : Nat) ({ cls := "LyndonBench$Word", name := "copyFrom", desc := "(LLyndonBench$Word;)V" } : Jvm.MethodName), Jvm.Cond.instanceMethod ({ cls := "LyndonBench$Word", name := "copyFrom", desc := "(LLyndonBench$Word;)V" } : Jvm.MethodName), Jvm.Cond.selects "LyndonBench$Word" ({ cls := "LyndonBench$Word", name := "copyFrom", desc := "(LLyndonBench$Word;)V" } : Jvm.MethodName) ({ cls := "LyndonBench$Word", name := "copyFrom", desc := "(LLyndonBench$Word;)V" } : Jvm.MethodName), Jvm.Cond.code ({ cls := "LyndonBench$Word", name := "copyFrom", desc := "(LLyndonBench$Word;)V" } : Jvm.MethodName) prog_7_method_10_code (2 : Nat) (Option.none : Option Jvm.ClassFile.FieldType), Jvm.Cond.methodLink "LyndonBench$Word" (43 : Nat) ({ cls := "LyndonBench$Word", name := "clear", desc := "()V" } : Jvm.MethodName), Jvm.Cond.methodLink "LyndonBench$Word" (46 : Nat) ({ cls := "LyndonBench$Word", name := "addPart", desc := "(LLyndonBench$Word;II)V" } : Jvm.MethodName), Jvm.Cond.methodLink "LyndonBench$State" (38 : Nat) ({ cls := "LyndonBench$State", name := "keptAt", desc := "(I)LLyndonBench$Word;" } : Jvm.MethodName), Jvm.Cond.instanceMethod ({ cls := "LyndonBench$State", name := "keptAt", desc := "(I)LLyndonBench$Word;" } : Jvm.MethodName), Jvm.Cond.selects "LyndonBench$State" ({ cls := "LyndonBench$State", name := "keptAt", desc := "(I)LLyndonBench$Word;" } : Jvm.MethodName) ({ cls := "LyndonBench$State", name := "keptAt", desc := "(I)LLyndonBench$Word;" } : Jvm.MethodName)]
abbrev zl_2_1 : List Cond := [Jvm.Cond.code ({ cls := "LyndonBench$State", name := "keptAt", desc := "(I)LLyndonBench$Word;" } : Jvm.MethodName) prog_6_method_7_code (2 : Nat) (Option.some (Jvm.ClassFile.FieldType.object "LyndonBench$Word")), Jvm.Cond.methodLink "LyndonBench$State" (45 : Nat) ({ cls := "LyndonBench$State", name := "keep", desc := "(LLyndonBench$Word;II)V" } : Jvm.MethodName), Jvm.Cond.methodLink "LyndonBenchLaw" (144 : Nat) ({ cls := "LyndonBench", name := "undoCount", desc := "()I" } : Jvm.MethodName), Jvm.Cond.instanceMethod ({ cls := "LyndonBench", name := "undoCount", desc := "()I" } : Jvm.MethodName), Jvm.Cond.selects "LyndonBench" ({ cls := "LyndonBench", name := "undoCount", desc := "()I" } : Jvm.MethodName) ({ cls := "LyndonBench", name := "undoCount", desc := "()I" } : Jvm.MethodName), Jvm.Cond.code ({ cls := "LyndonBench", name := "undoCount", desc := "()I" } : Jvm.MethodName) prog_1_method_19_code (1 : Nat) (Option.some Jvm.ClassFile.FieldType.int), Jvm.Cond.methodLink "LyndonBenchLaw" (13 : Nat) ({ cls := "LyndonBench", name := "letters", desc := "()I" } : Jvm.MethodName), Jvm.Cond.instanceMethod ({ cls := "LyndonBench", name := "letters", desc := "()I" } : Jvm.MethodName), Jvm.Cond.selects "LyndonBench" ({ cls := "LyndonBench", name := "letters", desc := "()I" } : Jvm.MethodName) ({ cls := "LyndonBench", name := "letters", desc := "()I" } : Jvm.MethodName), Jvm.Cond.code ({ cls := "LyndonBench", name := "letters", desc := "()I" } : Jvm.MethodName) prog_1_method_24_code (1 : Nat) (Option.some Jvm.ClassFile.FieldType.int), Jvm.Cond.methodLink "LyndonBenchLaw" (140 : Nat) ({ cls := "LyndonBenchLaw", name := "cell", desc := "([II)I" } : Jvm.MethodName), Jvm.Cond.static ({ cls := "LyndonBenchLaw", name := "cell", desc := "([II)I" } : Jvm.MethodName), Jvm.Cond.code ({ cls := "LyndonBenchLaw", name := "cell", desc := "([II)I" } : Jvm.MethodName) method_2_code (2 : Nat) (Option.some Jvm.ClassFile.FieldType.int), Jvm.Cond.methodLink "LyndonBenchLaw" (151 : Nat) ({ cls := "LyndonBenchLaw", name := "deed", desc := "(LLyndonBench;I)V" } : Jvm.MethodName), Jvm.Cond.static ({ cls := "LyndonBenchLaw", name := "deed", desc := "(LLyndonBench;I)V" } : Jvm.MethodName), Jvm.Cond.code ({ cls := "LyndonBenchLaw", name := "deed", desc := "(LLyndonBench;I)V" } : Jvm.MethodName) method_3_code (6 : Nat) (Option.none : Option Jvm.ClassFile.FieldType)]
abbrev zl_2_2 : List Cond := [Jvm.Cond.methodLink "LyndonBenchLaw" (7 : Nat) ({ cls := "LyndonBench", name := "length", desc := "()I" } : Jvm.MethodName), Jvm.Cond.instanceMethod ({ cls := "LyndonBench", name := "length", desc := "()I" } : Jvm.MethodName), Jvm.Cond.selects "LyndonBench" ({ cls := "LyndonBench", name := "length", desc := "()I" } : Jvm.MethodName) ({ cls := "LyndonBench", name := "length", desc := "()I" } : Jvm.MethodName), Jvm.Cond.code ({ cls := "LyndonBench", name := "length", desc := "()I" } : Jvm.MethodName) prog_1_method_25_code (1 : Nat) (Option.some Jvm.ClassFile.FieldType.int), Jvm.Cond.methodLink "LyndonBenchLaw" (16 : Nat) ({ cls := "LyndonBench", name := "appendLetter", desc := "(I)I" } : Jvm.MethodName), Jvm.Cond.instanceMethod ({ cls := "LyndonBench", name := "appendLetter", desc := "(I)I" } : Jvm.MethodName), Jvm.Cond.selects "LyndonBench" ({ cls := "LyndonBench", name := "appendLetter", desc := "(I)I" } : Jvm.MethodName) ({ cls := "LyndonBench", name := "appendLetter", desc := "(I)I" } : Jvm.MethodName), Jvm.Cond.code ({ cls := "LyndonBench", name := "appendLetter", desc := "(I)I" } : Jvm.MethodName) prog_1_method_7_code (2 : Nat) (Option.some Jvm.ClassFile.FieldType.int), Jvm.Cond.methodLink "LyndonBench" (128 : Nat) ({ cls := "LyndonBench", name := "checkLetter", desc := "(I)V" } : Jvm.MethodName), Jvm.Cond.privateMethod ({ cls := "LyndonBench", name := "checkLetter", desc := "(I)V" } : Jvm.MethodName), Jvm.Cond.instanceMethod ({ cls := "LyndonBench", name := "checkLetter", desc := "(I)V" } : Jvm.MethodName), Jvm.Cond.code ({ cls := "LyndonBench", name := "checkLetter", desc := "(I)V" } : Jvm.MethodName) prog_1_method_61_code (2 : Nat) (Option.none : Option Jvm.ClassFile.FieldType), Jvm.Cond.methodLink "LyndonBench" (120 : Nat) ({ cls := "LyndonBench$State", name := "isLetter", desc := "(I)Z" } : Jvm.MethodName), Jvm.Cond.instanceMethod ({ cls := "LyndonBench$State", name := "isLetter", desc := "(I)Z" } : Jvm.MethodName), Jvm.Cond.selects "LyndonBench$State" ({ cls := "LyndonBench$State", name := "isLetter", desc := "(I)Z" } : Jvm.MethodName) ({ cls := "LyndonBench$State", name := "isLetter", desc := "(I)Z" } : Jvm.MethodName), Jvm.Cond.code ({ cls := "LyndonBench$State", name := "isLetter", desc := "(I)Z" } : Jvm.MethodName) prog_6_method_4_code (2 : Nat) (Option.some Jvm.ClassFile.FieldType.boolean)]
abbrev zl_2_3 : List Cond := [Jvm.Cond.classLink "LyndonBench" (77 : Nat) "java/lang/IllegalArgumentException", Jvm.Cond.instantiable "java/lang/IllegalArgumentException" (6 : Nat), Jvm.Cond.castable "java/lang/IllegalArgumentException" "java/lang/IllegalArgumentException", Jvm.Cond.declares ({ cls := "java/lang/RuntimeException", name := "<init>", desc := "()V" } : Jvm.MethodName), Jvm.Cond.declares ({ cls := "java/lang/RuntimeException", name := "<init>", desc := "(Ljava/lang/String;)V" } : Jvm.MethodName), Jvm.Cond.declares ({ cls := "java/lang/Exception", name := "<init>", desc := "()V" } : Jvm.MethodName), Jvm.Cond.declares ({ cls := "java/lang/Exception", name := "<init>", desc := "(Ljava/lang/String;)V" } : Jvm.MethodName), Jvm.Cond.declares ({ cls := "java/lang/Throwable", name := "<init>", desc := "()V" } : Jvm.MethodName), Jvm.Cond.declares ({ cls := "java/lang/Throwable", name := "<init>", desc := "(Ljava/lang/String;)V" } : Jvm.MethodName), Jvm.Cond.selects "java/lang/IllegalArgumentException" ({ cls := "java/lang/Throwable", name := "fillInStackTrace", desc := "(I)Ljava/lang/Throwable;" } : Jvm.MethodName) ({ cls := "java/lang/Throwable", name := "fillInStackTrace", desc := "(I)Ljava/lang/Throwable;" } : Jvm.MethodName), Jvm.Cond.selects "java/lang/IllegalArgumentException" ({ cls := "java/lang/Throwable", name := "fillInStackTrace", desc := "()Ljava/lang/Throwable;" } : Jvm.MethodName) ({ cls := "java/lang/Throwable", name := "fillInStackTrace", desc := "()Ljava/lang/Throwable;" } : Jvm.MethodName), Jvm.Cond.lays "java/lang/IllegalArgumentException" "java/lang/Throwable" "cause" "Ljava/lang/Throwable;", Jvm.Cond.lays "java/lang/Throwable" "java/lang/Throwable" "cause" "Ljava/lang/Throwable;", Jvm.Cond.lays "java/lang/IllegalArgumentException" "java/lang/Throwable" "stackTrace" "[Ljava/lang/StackTraceElement;", Jvm.Cond.lays "java/lang/Throwable" "java/lang/Throwable" "stackTrace" "[Ljava/lang/StackTraceElement;", Jvm.Cond.lays "java/lang/IllegalArgumentException" "java/lang/Throwable" "suppressedExceptions" "Ljava/util/List;"]
abbrev zl_2_4 : List Cond := [Jvm.Cond.lays "java/lang/Throwable" "java/lang/Throwable" "suppressedExceptions" "Ljava/util/List;", Jvm.Cond.lays "java/lang/IllegalArgumentException" "java/lang/Throwable" "detailMessage" "Ljava/lang/String;", Jvm.Cond.lays "java/lang/Throwable" "java/lang/Throwable" "detailMessage" "Ljava/lang/String;", Jvm.Cond.lays "java/lang/IllegalArgumentException" "java/lang/Throwable" "backtrace" "Ljava/lang/Object;", Jvm.Cond.lays "java/lang/Throwable" "java/lang/Throwable" "backtrace" "Ljava/lang/Object;", Jvm.Cond.fieldLink "java/lang/Throwable" (198 : Nat) "java/lang/Throwable" "backtrace" "Ljava/lang/Object;", Jvm.Cond.superclass "java/lang/Throwable" "java/lang/Object", Jvm.Cond.instanceMethod ({ cls := "java/lang/Throwable", name := "<init>", desc := "()V" } : Jvm.MethodName), Jvm.Cond.code ({ cls := "java/lang/Throwable", name := "<init>", desc := "()V" } : Jvm.MethodName) prog_20_method_1_code (1 : Nat) (Option.none : Option Jvm.ClassFile.FieldType), Jvm.Cond.methodLink "java/lang/Throwable" (1 : Nat) ({ cls := "java/lang/Object", name := "<init>", desc := "()V" } : Jvm.MethodName), Jvm.Cond.fieldLink "java/lang/Throwable" (13 : Nat) "java/lang/Throwable" "UNASSIGNED_STACK" "[Ljava/lang/StackTraceElement;", Jvm.Cond.laysStatic "java/lang/Throwable" "UNASSIGNED_STACK" "[Ljava/lang/StackTraceElement;", Jvm.Cond.fieldLink "java/lang/Throwable" (20 : Nat) "java/lang/Throwable" "SUPPRESSED_SENTINEL" "Ljava/util/List;", Jvm.Cond.laysStatic "java/lang/Throwable" "SUPPRESSED_SENTINEL" "Ljava/util/List;", Jvm.Cond.methodLink "java/lang/Throwable" (27 : Nat) ({ cls := "java/lang/Throwable", name := "fillInStackTrace", desc := "()Ljava/lang/Throwable;" } : Jvm.MethodName), Jvm.Cond.instanceMethod ({ cls := "java/lang/Throwable", name := "fillInStackTrace", desc := "()Ljava/lang/Throwable;" } : Jvm.MethodName)]
abbrev zl_2_5 : List Cond := [Jvm.Cond.sameMethod "java/lang/Throwable" "java/lang/Throwable" "fillInStackTrace" "()Ljava/lang/Throwable;", Jvm.Cond.selects "java/lang/IllegalStateException" ({ cls := "java/lang/Throwable", name := "fillInStackTrace", desc := "()Ljava/lang/Throwable;" } : Jvm.MethodName) ({ cls := "java/lang/Throwable", name := "fillInStackTrace", desc := "()Ljava/lang/Throwable;" } : Jvm.MethodName), Jvm.Cond.selects "java/lang/IndexOutOfBoundsException" ({ cls := "java/lang/Throwable", name := "fillInStackTrace", desc := "()Ljava/lang/Throwable;" } : Jvm.MethodName) ({ cls := "java/lang/Throwable", name := "fillInStackTrace", desc := "()Ljava/lang/Throwable;" } : Jvm.MethodName), Jvm.Cond.codeSync ({ cls := "java/lang/Throwable", name := "fillInStackTrace", desc := "()Ljava/lang/Throwable;" } : Jvm.MethodName) prog_20_method_18_code (1 : Nat) (Option.some (Jvm.ClassFile.FieldType.object "java/lang/Throwable")), Jvm.Cond.methodLink "java/lang/Throwable" (202 : Nat) ({ cls := "java/lang/Throwable", name := "fillInStackTrace", desc := "(I)Ljava/lang/Throwable;" } : Jvm.MethodName), Jvm.Cond.privateMethod ({ cls := "java/lang/Throwable", name := "fillInStackTrace", desc := "(I)Ljava/lang/Throwable;" } : Jvm.MethodName), Jvm.Cond.instanceMethod ({ cls := "java/lang/Throwable", name := "fillInStackTrace", desc := "(I)Ljava/lang/Throwable;" } : Jvm.MethodName), Jvm.Cond.instantiable "java/lang/Throwable" (6 : Nat), Jvm.Cond.native ({ cls := "java/lang/Throwable", name := "fillInStackTrace", desc := "(I)Ljava/lang/Throwable;" } : Jvm.MethodName), Jvm.Cond.stringRef "LyndonBench" (295 : Nat) "this is not one of the letters", Jvm.Cond.methodLink "LyndonBench" (81 : Nat) ({ cls := "java/lang/IllegalArgumentException", name := "<init>", desc := "(Ljava/lang/String;)V" } : Jvm.MethodName), Jvm.Cond.instanceMethod ({ cls := "java/lang/IllegalArgumentException", name := "<init>", desc := "(Ljava/lang/String;)V" } : Jvm.MethodName), Jvm.Cond.code ({ cls := "java/lang/IllegalArgumentException", name := "<init>", desc := "(Ljava/lang/String;)V" } : Jvm.MethodName) prog_11_method_2_code (2 : Nat) (Option.none : Option Jvm.ClassFile.FieldType), Jvm.Cond.methodLink "java/lang/IllegalArgumentException" (7 : Nat) ({ cls := "java/lang/RuntimeException", name := "<init>", desc := "(Ljava/lang/String;)V" } : Jvm.MethodName), Jvm.Cond.instanceMethod ({ cls := "java/lang/RuntimeException", name := "<init>", desc := "(Ljava/lang/String;)V" } : Jvm.MethodName), Jvm.Cond.code ({ cls := "java/lang/RuntimeException", name := "<init>", desc := "(Ljava/lang/String;)V" } : Jvm.MethodName) prog_16_method_2_code (2 : Nat) (Option.none : Option Jvm.ClassFile.FieldType)]
abbrev zl_2_6 : List Cond := [Jvm.Cond.methodLink "java/lang/RuntimeException" (7 : Nat) ({ cls := "java/lang/Exception", name := "<init>", desc := "(Ljava/lang/String;)V" } : Jvm.MethodName), Jvm.Cond.instanceMethod ({ cls := "java/lang/Exception", name := "<init>", desc := "(Ljava/lang/String;)V" } : Jvm.MethodName), Jvm.Cond.code ({ cls := "java/lang/Exception", name := "<init>", desc := "(Ljava/lang/String;)V" } : Jvm.MethodName) prog_10_method_2_code (2 : Nat) (Option.none : Option Jvm.ClassFile.FieldType), Jvm.Cond.methodLink "java/lang/Exception" (7 : Nat) ({ cls := "java/lang/Throwable", name := "<init>", desc := "(Ljava/lang/String;)V" } : Jvm.MethodName), Jvm.Cond.instanceMethod ({ cls := "java/lang/Throwable", name := "<init>", desc := "(Ljava/lang/String;)V" } : Jvm.MethodName), Jvm.Cond.code ({ cls := "java/lang/Throwable", name := "<init>", desc := "(Ljava/lang/String;)V" } : Jvm.MethodName) prog_20_method_2_code (2 : Nat) (Option.none : Option Jvm.ClassFile.FieldType), Jvm.Cond.fieldLink "java/lang/Throwable" (198 : Nat) "java/lang/Throwable" "backtrace" "Ljava/lang/Object;", Jvm.Cond.fieldLink "java/lang/Throwable" (31 : Nat) "java/lang/Throwable" "detailMessage" "Ljava/lang/String;", Jvm.Cond.fieldLink "java/lang/Throwable" (7 : Nat) "java/lang/Throwable" "cause" "Ljava/lang/Throwable;", Jvm.Cond.fieldLink "java/lang/Throwable" (17 : Nat) "java/lang/Throwable" "stackTrace" "[Ljava/lang/StackTraceElement;", Jvm.Cond.fieldLink "java/lang/Throwable" (24 : Nat) "java/lang/Throwable" "suppressedExceptions" "Ljava/util/List;", Jvm.Cond.soleField "java/lang/Throwable" "backtrace", Jvm.Cond.soleField "java/lang/Throwable" "detailMessage", Jvm.Cond.soleField "java/lang/Throwable" "cause", Jvm.Cond.soleField "java/lang/Throwable" "stackTrace", Jvm.Cond.lays "java/lang/IllegalArgumentException" "java/lang/Throwable" "depth" "I"]
abbrev zl_2_7 : List Cond := [Jvm.Cond.soleField "java/lang/Throwable" "depth", Jvm.Cond.soleField "java/lang/Throwable" "suppressedExceptions", Jvm.Cond.superclass "java/lang/IllegalArgumentException" "java/lang/RuntimeException", Jvm.Cond.classLink "LyndonBench" (108 : Nat) "java/lang/IllegalStateException", Jvm.Cond.instantiable "java/lang/IllegalStateException" (6 : Nat), Jvm.Cond.castable "java/lang/IllegalStateException" "java/lang/IllegalStateException", Jvm.Cond.selects "java/lang/IllegalStateException" ({ cls := "java/lang/Throwable", name := "fillInStackTrace", desc := "(I)Ljava/lang/Throwable;" } : Jvm.MethodName) ({ cls := "java/lang/Throwable", name := "fillInStackTrace", desc := "(I)Ljava/lang/Throwable;" } : Jvm.MethodName), Jvm.Cond.lays "java/lang/IllegalStateException" "java/lang/Throwable" "cause" "Ljava/lang/Throwable;", Jvm.Cond.lays "java/lang/IllegalStateException" "java/lang/Throwable" "stackTrace" "[Ljava/lang/StackTraceElement;", Jvm.Cond.lays "java/lang/IllegalStateException" "java/lang/Throwable" "suppressedExceptions" "Ljava/util/List;", Jvm.Cond.lays "java/lang/IllegalStateException" "java/lang/Throwable" "detailMessage" "Ljava/lang/String;", Jvm.Cond.lays "java/lang/IllegalStateException" "java/lang/Throwable" "backtrace" "Ljava/lang/Object;", Jvm.Cond.stringRef "LyndonBench" (123 : Nat) "a text has at most 120 letters", Jvm.Cond.methodLink "LyndonBench" (112 : Nat) ({ cls := "java/lang/IllegalStateException", name := "<init>", desc := "(Ljava/lang/String;)V" } : Jvm.MethodName), Jvm.Cond.instanceMethod ({ cls := "java/lang/IllegalStateException", name := "<init>", desc := "(Ljava/lang/String;)V" } : Jvm.MethodName), Jvm.Cond.code ({ cls := "java/lang/IllegalStateException", name := "<init>", desc := "(Ljava/lang/String;)V" } : Jvm.MethodName) prog_12_method_2_code (2 : Nat) (Option.none : Option Jvm.ClassFile.FieldType)]
abbrev zl_2_8 : List Cond := [Jvm.Cond.methodLink "java/lang/IllegalStateException" (7 : Nat) ({ cls := "java/lang/RuntimeException", name := "<init>", desc := "(Ljava/lang/String;)V" } : Jvm.MethodName), Jvm.Cond.lays "java/lang/IllegalStateException" "java/lang/Throwable" "depth" "I", Jvm.Cond.superclass "java/lang/IllegalStateException" "java/lang/RuntimeException", Jvm.Cond.methodLink "LyndonBench" (92 : Nat) ({ cls := "LyndonBench$History", name := "remember", desc := "(LLyndonBench$State;)V" } : Jvm.MethodName), Jvm.Cond.instanceMethod ({ cls := "LyndonBench$History", name := "remember", desc := "(LLyndonBench$State;)V" } : Jvm.MethodName), Jvm.Cond.selects "LyndonBench$History" ({ cls := "LyndonBench$History", name := "remember", desc := "(LLyndonBench$State;)V" } : Jvm.MethodName) ({ cls := "LyndonBench$History", name := "remember", desc := "(LLyndonBench$State;)V" } : Jvm.MethodName), Jvm.Cond.code ({ cls := "LyndonBench$History", name := "remember", desc := "(LLyndonBench$State;)V" } : Jvm.MethodName) prog_4_method_2_code (2 : Nat) (Option.none : Option Jvm.ClassFile.FieldType), Jvm.Cond.methodLink "LyndonBench$History" (22 : Nat) ({ cls := "LyndonBench$History", name := "forgetOldest", desc := "()V" } : Jvm.MethodName), Jvm.Cond.privateMethod ({ cls := "LyndonBench$History", name := "forgetOldest", desc := "()V" } : Jvm.MethodName), Jvm.Cond.instanceMethod ({ cls := "LyndonBench$History", name := "forgetOldest", desc := "()V" } : Jvm.MethodName), Jvm.Cond.code ({ cls := "LyndonBench$History", name := "forgetOldest", desc := "()V" } : Jvm.MethodName) prog_4_method_3_code (3 : Nat) (Option.none : Option Jvm.ClassFile.FieldType), Jvm.Cond.methodLink "LyndonBench" (131 : Nat) ({ cls := "LyndonBench$Word", name := "add", desc := "(I)V" } : Jvm.MethodName), Jvm.Cond.methodLink "LyndonBench" (134 : Nat) ({ cls := "LyndonBench$Word", name := "countFactors", desc := "()I" } : Jvm.MethodName), Jvm.Cond.instanceMethod ({ cls := "LyndonBench$Word", name := "countFactors", desc := "()I" } : Jvm.MethodName), Jvm.Cond.selects "LyndonBench$Word" ({ cls := "LyndonBench$Word", name := "countFactors", desc := "()I" } : Jvm.MethodName) ({ cls := "LyndonBench$Word", name := "countFactors", desc := "()I" } : Jvm.MethodName), Jvm.Cond.code ({ cls := "LyndonBench$Word", name := "countFactors", desc := "()I" } : Jvm.MethodName) prog_7_method_20_code (6 : Nat) (Option.some Jvm.ClassFile.FieldType.int)]
abbrev zl_2_9 : List Cond := [Jvm.Cond.methodLink "LyndonBench$Word" (67 : Nat) ({ cls := "LyndonBench$Word", name := "factorEnd", desc := "(II)I" } : Jvm.MethodName), Jvm.Cond.instanceMethod ({ cls := "LyndonBench$Word", name := "factorEnd", desc := "(II)I" } : Jvm.MethodName), Jvm.Cond.selects "LyndonBench$Word" ({ cls := "LyndonBench$Word", name := "factorEnd", desc := "(II)I" } : Jvm.MethodName) ({ cls := "LyndonBench$Word", name := "factorEnd", desc := "(II)I" } : Jvm.MethodName), Jvm.Cond.code ({ cls := "LyndonBench$Word", name := "factorEnd", desc := "(II)I" } : Jvm.MethodName) prog_7_method_19_code (4 : Nat) (Option.some Jvm.ClassFile.FieldType.int), Jvm.Cond.methodLink "LyndonBench$Word" (60 : Nat) ({ cls := "LyndonBench$Word", name := "order", desc := "(IILLyndonBench$Word;II)I" } : Jvm.MethodName), Jvm.Cond.instanceMethod ({ cls := "LyndonBench$Word", name := "order", desc := "(IILLyndonBench$Word;II)I" } : Jvm.MethodName), Jvm.Cond.selects "LyndonBench$Word" ({ cls := "LyndonBench$Word", name := "order", desc := "(IILLyndonBench$Word;II)I" } : Jvm.MethodName) ({ cls := "LyndonBench$Word", name := "order", desc := "(IILLyndonBench$Word;II)I" } : Jvm.MethodName), Jvm.Cond.code ({ cls := "LyndonBench$Word", name := "order", desc := "(IILLyndonBench$Word;II)I" } : Jvm.MethodName) prog_7_method_17_code (11 : Nat) (Option.some Jvm.ClassFile.FieldType.int), Jvm.Cond.methodLink "LyndonBench$Word" (64 : Nat) ({ cls := "LyndonBench$Word", name := "lyndonEnd", desc := "(I)I" } : Jvm.MethodName), Jvm.Cond.instanceMethod ({ cls := "LyndonBench$Word", name := "lyndonEnd", desc := "(I)I" } : Jvm.MethodName), Jvm.Cond.selects "LyndonBench$Word" ({ cls := "LyndonBench$Word", name := "lyndonEnd", desc := "(I)I" } : Jvm.MethodName) ({ cls := "LyndonBench$Word", name := "lyndonEnd", desc := "(I)I" } : Jvm.MethodName), Jvm.Cond.code ({ cls := "LyndonBench$Word", name := "lyndonEnd", desc := "(I)I" } : Jvm.MethodName) prog_7_method_18_code (4 : Nat) (Option.some Jvm.ClassFile.FieldType.int), Jvm.Cond.methodLink "LyndonBenchLaw" (20 : Nat) ({ cls := "java/lang/Math", name := "min", desc := "(II)I" } : Jvm.MethodName), Jvm.Cond.static ({ cls := "java/lang/Math", name := "min", desc := "(II)I" } : Jvm.MethodName), Jvm.Cond.code ({ cls := "java/lang/Math", name := "min", desc := "(II)I" } : Jvm.MethodName) prog_15_method_69_code (2 : Nat) (Option.some Jvm.ClassFile.FieldType.int), Jvm.Cond.methodLink "LyndonBenchLaw" (26 : Nat) ({ cls := "LyndonBench", name := "dropLast", desc := "(I)I" } : Jvm.MethodName)]
abbrev zl_2_10 : List Cond := [Jvm.Cond.instanceMethod ({ cls := "LyndonBench", name := "dropLast", desc := "(I)I" } : Jvm.MethodName), Jvm.Cond.selects "LyndonBench" ({ cls := "LyndonBench", name := "dropLast", desc := "(I)I" } : Jvm.MethodName) ({ cls := "LyndonBench", name := "dropLast", desc := "(I)I" } : Jvm.MethodName), Jvm.Cond.code ({ cls := "LyndonBench", name := "dropLast", desc := "(I)I" } : Jvm.MethodName) prog_1_method_8_code (2 : Nat) (Option.some Jvm.ClassFile.FieldType.int), Jvm.Cond.methodLink "LyndonBench" (138 : Nat) ({ cls := "LyndonBench", name := "checkCount", desc := "(I)V" } : Jvm.MethodName), Jvm.Cond.privateMethod ({ cls := "LyndonBench", name := "checkCount", desc := "(I)V" } : Jvm.MethodName), Jvm.Cond.instanceMethod ({ cls := "LyndonBench", name := "checkCount", desc := "(I)V" } : Jvm.MethodName), Jvm.Cond.code ({ cls := "LyndonBench", name := "checkCount", desc := "(I)V" } : Jvm.MethodName) prog_1_method_62_code (2 : Nat) (Option.none : Option Jvm.ClassFile.FieldType), Jvm.Cond.stringRef "LyndonBench" (297 : Nat) "the text has not so many letters", Jvm.Cond.methodLink "LyndonBench" (83 : Nat) ({ cls := "LyndonBench$Word", name := "shortenTo", desc := "(I)V" } : Jvm.MethodName), Jvm.Cond.instanceMethod ({ cls := "LyndonBench$Word", name := "shortenTo", desc := "(I)V" } : Jvm.MethodName), Jvm.Cond.selects "LyndonBench$Word" ({ cls := "LyndonBench$Word", name := "shortenTo", desc := "(I)V" } : Jvm.MethodName) ({ cls := "LyndonBench$Word", name := "shortenTo", desc := "(I)V" } : Jvm.MethodName), Jvm.Cond.code ({ cls := "LyndonBench$Word", name := "shortenTo", desc := "(I)V" } : Jvm.MethodName) prog_7_method_11_code (2 : Nat) (Option.none : Option Jvm.ClassFile.FieldType), Jvm.Cond.methodLink "LyndonBenchLaw" (29 : Nat) ({ cls := "LyndonBench", name := "rotate", desc := "(I)I" } : Jvm.MethodName), Jvm.Cond.instanceMethod ({ cls := "LyndonBench", name := "rotate", desc := "(I)I" } : Jvm.MethodName), Jvm.Cond.selects "LyndonBench" ({ cls := "LyndonBench", name := "rotate", desc := "(I)I" } : Jvm.MethodName) ({ cls := "LyndonBench", name := "rotate", desc := "(I)I" } : Jvm.MethodName), Jvm.Cond.code ({ cls := "LyndonBench", name := "rotate", desc := "(I)I" } : Jvm.MethodName) prog_1_method_10_code (2 : Nat) (Option.some Jvm.ClassFile.FieldType.int)]
abbrev zl_2_11 : List Cond := [Jvm.Cond.methodLink "LyndonBench" (148 : Nat) ({ cls := "LyndonBench$Word", name := "turn", desc := "(I)V" } : Jvm.MethodName), Jvm.Cond.instanceMethod ({ cls := "LyndonBench$Word", name := "turn", desc := "(I)V" } : Jvm.MethodName), Jvm.Cond.selects "LyndonBench$Word" ({ cls := "LyndonBench$Word", name := "turn", desc := "(I)V" } : Jvm.MethodName) ({ cls := "LyndonBench$Word", name := "turn", desc := "(I)V" } : Jvm.MethodName), Jvm.Cond.code ({ cls := "LyndonBench$Word", name := "turn", desc := "(I)V" } : Jvm.MethodName) prog_7_method_14_code (2 : Nat) (Option.none : Option Jvm.ClassFile.FieldType), Jvm.Cond.methodLink "LyndonBench$Word" (57 : Nat) ({ cls := "LyndonBench$Word", name := "mirror", desc := "(II)V" } : Jvm.MethodName), Jvm.Cond.instanceMethod ({ cls := "LyndonBench$Word", name := "mirror", desc := "(II)V" } : Jvm.MethodName), Jvm.Cond.selects "LyndonBench$Word" ({ cls := "LyndonBench$Word", name := "mirror", desc := "(II)V" } : Jvm.MethodName) ({ cls := "LyndonBench$Word", name := "mirror", desc := "(II)V" } : Jvm.MethodName), Jvm.Cond.code ({ cls := "LyndonBench$Word", name := "mirror", desc := "(II)V" } : Jvm.MethodName) prog_7_method_13_code (6 : Nat) (Option.none : Option Jvm.ClassFile.FieldType), Jvm.Cond.methodLink "LyndonBench$Word" (50 : Nat) ({ cls := "LyndonBench$Word", name := "put", desc := "(II)V" } : Jvm.MethodName), Jvm.Cond.privateMethod ({ cls := "LyndonBench$Word", name := "put", desc := "(II)V" } : Jvm.MethodName), Jvm.Cond.instanceMethod ({ cls := "LyndonBench$Word", name := "put", desc := "(II)V" } : Jvm.MethodName), Jvm.Cond.code ({ cls := "LyndonBench$Word", name := "put", desc := "(II)V" } : Jvm.MethodName) prog_7_method_3_code (3 : Nat) (Option.none : Option Jvm.ClassFile.FieldType), Jvm.Cond.methodLink "LyndonBenchLaw" (32 : Nat) ({ cls := "LyndonBench", name := "reverse", desc := "()I" } : Jvm.MethodName), Jvm.Cond.instanceMethod ({ cls := "LyndonBench", name := "reverse", desc := "()I" } : Jvm.MethodName), Jvm.Cond.selects "LyndonBench" ({ cls := "LyndonBench", name := "reverse", desc := "()I" } : Jvm.MethodName) ({ cls := "LyndonBench", name := "reverse", desc := "()I" } : Jvm.MethodName), Jvm.Cond.code ({ cls := "LyndonBench", name := "reverse", desc := "()I" } : Jvm.MethodName) prog_1_method_11_code (1 : Nat) (Option.some Jvm.ClassFile.FieldType.int)]
abbrev zl_2_12 : List Cond := [Jvm.Cond.methodLink "LyndonBench" (151 : Nat) ({ cls := "LyndonBench$Word", name := "mirror", desc := "(II)V" } : Jvm.MethodName), Jvm.Cond.methodLink "LyndonBenchLaw" (35 : Nat) ({ cls := "LyndonBench", name := "rotateToLeast", desc := "()I" } : Jvm.MethodName), Jvm.Cond.instanceMethod ({ cls := "LyndonBench", name := "rotateToLeast", desc := "()I" } : Jvm.MethodName), Jvm.Cond.selects "LyndonBench" ({ cls := "LyndonBench", name := "rotateToLeast", desc := "()I" } : Jvm.MethodName) ({ cls := "LyndonBench", name := "rotateToLeast", desc := "()I" } : Jvm.MethodName), Jvm.Cond.code ({ cls := "LyndonBench", name := "rotateToLeast", desc := "()I" } : Jvm.MethodName) prog_1_method_12_code (2 : Nat) (Option.some Jvm.ClassFile.FieldType.int), Jvm.Cond.stringRef "LyndonBench" (154 : Nat) "the text is empty", Jvm.Cond.methodLink "LyndonBench" (156 : Nat) ({ cls := "LyndonBench$Word", name := "leastTurn", desc := "()I" } : Jvm.MethodName), Jvm.Cond.instanceMethod ({ cls := "LyndonBench$Word", name := "leastTurn", desc := "()I" } : Jvm.MethodName), Jvm.Cond.selects "LyndonBench$Word" ({ cls := "LyndonBench$Word", name := "leastTurn", desc := "()I" } : Jvm.MethodName) ({ cls := "LyndonBench$Word", name := "leastTurn", desc := "()I" } : Jvm.MethodName), Jvm.Cond.code ({ cls := "LyndonBench$Word", name := "leastTurn", desc := "()I" } : Jvm.MethodName) prog_7_method_31_code (7 : Nat) (Option.some Jvm.ClassFile.FieldType.int), Jvm.Cond.methodLink "LyndonBench$Word" (77 : Nat) ({ cls := "LyndonBench$Word", name := "atAround", desc := "(I)I" } : Jvm.MethodName), Jvm.Cond.privateMethod ({ cls := "LyndonBench$Word", name := "atAround", desc := "(I)I" } : Jvm.MethodName), Jvm.Cond.instanceMethod ({ cls := "LyndonBench$Word", name := "atAround", desc := "(I)I" } : Jvm.MethodName), Jvm.Cond.code ({ cls := "LyndonBench$Word", name := "atAround", desc := "(I)I" } : Jvm.MethodName) prog_7_method_32_code (2 : Nat) (Option.some Jvm.ClassFile.FieldType.int), Jvm.Cond.methodLink "LyndonBenchLaw" (38 : Nat) ({ cls := "LyndonBench", name := "isLyndon", desc := "()Z" } : Jvm.MethodName), Jvm.Cond.instanceMethod ({ cls := "LyndonBench", name := "isLyndon", desc := "()Z" } : Jvm.MethodName)]
abbrev zl_2_13 : List Cond := [Jvm.Cond.selects "LyndonBench" ({ cls := "LyndonBench", name := "isLyndon", desc := "()Z" } : Jvm.MethodName) ({ cls := "LyndonBench", name := "isLyndon", desc := "()Z" } : Jvm.MethodName), Jvm.Cond.code ({ cls := "LyndonBench", name := "isLyndon", desc := "()Z" } : Jvm.MethodName) prog_1_method_37_code (1 : Nat) (Option.some Jvm.ClassFile.FieldType.boolean), Jvm.Cond.methodLink "LyndonBench" (250 : Nat) ({ cls := "LyndonBench$Word", name := "isOneFactor", desc := "()Z" } : Jvm.MethodName), Jvm.Cond.instanceMethod ({ cls := "LyndonBench$Word", name := "isOneFactor", desc := "()Z" } : Jvm.MethodName), Jvm.Cond.selects "LyndonBench$Word" ({ cls := "LyndonBench$Word", name := "isOneFactor", desc := "()Z" } : Jvm.MethodName) ({ cls := "LyndonBench$Word", name := "isOneFactor", desc := "()Z" } : Jvm.MethodName), Jvm.Cond.code ({ cls := "LyndonBench$Word", name := "isOneFactor", desc := "()Z" } : Jvm.MethodName) prog_7_method_21_code (1 : Nat) (Option.some Jvm.ClassFile.FieldType.boolean), Jvm.Cond.methodLink "LyndonBenchLaw" (42 : Nat) ({ cls := "LyndonBenchLaw", name := "isGreatest", desc := "(LLyndonBench;)Z" } : Jvm.MethodName), Jvm.Cond.static ({ cls := "LyndonBenchLaw", name := "isGreatest", desc := "(LLyndonBench;)Z" } : Jvm.MethodName), Jvm.Cond.code ({ cls := "LyndonBenchLaw", name := "isGreatest", desc := "(LLyndonBench;)Z" } : Jvm.MethodName) method_5_code (1 : Nat) (Option.some Jvm.ClassFile.FieldType.boolean), Jvm.Cond.methodLink "LyndonBenchLaw" (88 : Nat) ({ cls := "LyndonBench", name := "letterAt", desc := "(I)I" } : Jvm.MethodName), Jvm.Cond.instanceMethod ({ cls := "LyndonBench", name := "letterAt", desc := "(I)I" } : Jvm.MethodName), Jvm.Cond.selects "LyndonBench" ({ cls := "LyndonBench", name := "letterAt", desc := "(I)I" } : Jvm.MethodName) ({ cls := "LyndonBench", name := "letterAt", desc := "(I)I" } : Jvm.MethodName), Jvm.Cond.code ({ cls := "LyndonBench", name := "letterAt", desc := "(I)I" } : Jvm.MethodName) prog_1_method_26_code (2 : Nat) (Option.some Jvm.ClassFile.FieldType.int), Jvm.Cond.methodLink "LyndonBench" (116 : Nat) ({ cls := "LyndonBench$Word", name := "at", desc := "(I)I" } : Jvm.MethodName), Jvm.Cond.methodLink "LyndonBenchLaw" (48 : Nat) ({ cls := "LyndonBench", name := "nextLyndon", desc := "(I)I" } : Jvm.MethodName), Jvm.Cond.instanceMethod ({ cls := "LyndonBench", name := "nextLyndon", desc := "(I)I" } : Jvm.MethodName)]
abbrev zl_2_14 : List Cond := [Jvm.Cond.selects "LyndonBench" ({ cls := "LyndonBench", name := "nextLyndon", desc := "(I)I" } : Jvm.MethodName) ({ cls := "LyndonBench", name := "nextLyndon", desc := "(I)I" } : Jvm.MethodName), Jvm.Cond.code ({ cls := "LyndonBench", name := "nextLyndon", desc := "(I)I" } : Jvm.MethodName) prog_1_method_13_code (2 : Nat) (Option.some Jvm.ClassFile.FieldType.int), Jvm.Cond.stringRef "LyndonBench" (159 : Nat) "the greatest length is 1 to 120", Jvm.Cond.methodLink "LyndonBench" (161 : Nat) ({ cls := "LyndonBench$State", name := "hasNext", desc := "(I)Z" } : Jvm.MethodName), Jvm.Cond.instanceMethod ({ cls := "LyndonBench$State", name := "hasNext", desc := "(I)Z" } : Jvm.MethodName), Jvm.Cond.selects "LyndonBench$State" ({ cls := "LyndonBench$State", name := "hasNext", desc := "(I)Z" } : Jvm.MethodName) ({ cls := "LyndonBench$State", name := "hasNext", desc := "(I)Z" } : Jvm.MethodName), Jvm.Cond.code ({ cls := "LyndonBench$State", name := "hasNext", desc := "(I)Z" } : Jvm.MethodName) prog_6_method_14_code (2 : Nat) (Option.some Jvm.ClassFile.FieldType.boolean), Jvm.Cond.methodLink "LyndonBench$State" (64 : Nat) ({ cls := "LyndonBench$Word", name := "isOneFactor", desc := "()Z" } : Jvm.MethodName), Jvm.Cond.methodLink "LyndonBench$State" (68 : Nat) ({ cls := "LyndonBench$Word", name := "at", desc := "(I)I" } : Jvm.MethodName), Jvm.Cond.methodLink "LyndonBench$State" (71 : Nat) ({ cls := "LyndonBench$State", name := "greatestLetter", desc := "()I" } : Jvm.MethodName), Jvm.Cond.instanceMethod ({ cls := "LyndonBench$State", name := "greatestLetter", desc := "()I" } : Jvm.MethodName), Jvm.Cond.selects "LyndonBench$State" ({ cls := "LyndonBench$State", name := "greatestLetter", desc := "()I" } : Jvm.MethodName) ({ cls := "LyndonBench$State", name := "greatestLetter", desc := "()I" } : Jvm.MethodName), Jvm.Cond.code ({ cls := "LyndonBench$State", name := "greatestLetter", desc := "()I" } : Jvm.MethodName) prog_6_method_5_code (1 : Nat) (Option.some Jvm.ClassFile.FieldType.int), Jvm.Cond.stringRef "LyndonBench" (164 : Nat) "there is no next Lyndon word", Jvm.Cond.methodLink "LyndonBench" (166 : Nat) ({ cls := "LyndonBench$State", name := "greatestLetter", desc := "()I" } : Jvm.MethodName), Jvm.Cond.methodLink "LyndonBench" (169 : Nat) ({ cls := "LyndonBench$Word", name := "stepLyndon", desc := "(II)V" } : Jvm.MethodName)]
set_option maxRecDepth 100000 in
theorem ztq_2 : tables_1_2 = zl_2_0 ++ (zl_2_1 ++ (zl_2_2 ++ (zl_2_3 ++ (zl_2_4 ++ (zl_2_5 ++ (zl_2_6 ++ (zl_2_7 ++ (zl_2_8 ++ (zl_2_9 ++ (zl_2_10 ++ (zl_2_11 ++ (zl_2_12 ++ (zl_2_13 ++ (zl_2_14)))))))))))))) := rfl
theorem zls_2_0 : ∀ w ∈ zl_2_0, w ∈ tables_1_2 := fun w hw => by
  rw [ztq_2]
  exact List.mem_append_left _ hw
def zlt_2_0 := zu_16 zls_2_0
theorem zls_2_1 : ∀ w ∈ zl_2_1, w ∈ tables_1_2 := fun w hw => by
  rw [ztq_2]
  exact List.mem_append_right _ (List.mem_append_left _ hw)
def zlt_2_1 := zu_16 zls_2_1
theorem zls_2_2 : ∀ w ∈ zl_2_2, w ∈ tables_1_2 := fun w hw => by
  rw [ztq_2]
  exact List.mem_append_right _ (List.mem_append_right _ (List.mem_append_left _ hw))
def zlt_2_2 := zu_16 zls_2_2
theorem zls_2_3 : ∀ w ∈ zl_2_3, w ∈ tables_1_2 := fun w hw => by
  rw [ztq_2]
  exact List.mem_append_right _ (List.mem_append_right _ (List.mem_append_right _ (List.mem_append_left _ hw)))
def zlt_2_3 := zu_16 zls_2_3
theorem zls_2_4 : ∀ w ∈ zl_2_4, w ∈ tables_1_2 := fun w hw => by
  rw [ztq_2]
  exact List.mem_append_right _ (List.mem_append_right _ (List.mem_append_right _ (List.mem_append_right _ (List.mem_append_left _ hw))))
def zlt_2_4 := zu_16 zls_2_4
theorem zls_2_5 : ∀ w ∈ zl_2_5, w ∈ tables_1_2 := fun w hw => by
  rw [ztq_2]
  exact List.mem_append_right _ (List.mem_append_right _ (List.mem_append_right _ (List.mem_append_right _ (List.mem_append_right _ (List.mem_append_left _ hw)))))
def zlt_2_5 := zu_16 zls_2_5
theorem zls_2_6 : ∀ w ∈ zl_2_6, w ∈ tables_1_2 := fun w hw => by
  rw [ztq_2]
  exact List.mem_append_right _ (List.mem_append_right _ (List.mem_append_right _ (List.mem_append_right _ (List.mem_append_right _ (List.mem_append_right _ (List.mem_append_left _ hw))))))
def zlt_2_6 := zu_16 zls_2_6
theorem zls_2_7 : ∀ w ∈ zl_2_7, w ∈ tables_1_2 := fun w hw => by
  rw [ztq_2]
  exact List.mem_append_right _ (List.mem_append_right _ (List.mem_append_right _ (List.mem_append_right _ (List.mem_append_right _ (List.mem_append_right _ (List.mem_append_right _ (List.mem_append_left _ hw)))))))
def zlt_2_7 := zu_16 zls_2_7
theorem zls_2_8 : ∀ w ∈ zl_2_8, w ∈ tables_1_2 := fun w hw => by
  rw [ztq_2]
  exact List.mem_append_right _ (List.mem_append_right _ (List.mem_append_right _ (List.mem_append_right _ (List.mem_append_right _ (List.mem_append_right _ (List.mem_append_right _ (List.mem_append_right _ (List.mem_append_left _ hw))))))))
def zlt_2_8 := zu_16 zls_2_8
theorem zls_2_9 : ∀ w ∈ zl_2_9, w ∈ tables_1_2 := fun w hw => by
  rw [ztq_2]
  exact List.mem_append_right _ (List.mem_append_right _ (List.mem_append_right _ (List.mem_append_right _ (List.mem_append_right _ (List.mem_append_right _ (List.mem_append_right _ (List.mem_append_right _ (List.mem_append_right _ (List.mem_append_left _ hw)))))))))
def zlt_2_9 := zu_16 zls_2_9
theorem zls_2_10 : ∀ w ∈ zl_2_10, w ∈ tables_1_2 := fun w hw => by
  rw [ztq_2]
  exact List.mem_append_right _ (List.mem_append_right _ (List.mem_append_right _ (List.mem_append_right _ (List.mem_append_right _ (List.mem_append_right _ (List.mem_append_right _ (List.mem_append_right _ (List.mem_append_right _ (List.mem_append_right _ (List.mem_append_left _ hw))))))))))
def zlt_2_10 := zu_16 zls_2_10
theorem zls_2_11 : ∀ w ∈ zl_2_11, w ∈ tables_1_2 := fun w hw => by
  rw [ztq_2]
  exact List.mem_append_right _ (List.mem_append_right _ (List.mem_append_right _ (List.mem_append_right _ (List.mem_append_right _ (List.mem_append_right _ (List.mem_append_right _ (List.mem_append_right _ (List.mem_append_right _ (List.mem_append_right _ (List.mem_append_right _ (List.mem_append_left _ hw)))))))))))
def zlt_2_11 := zu_16 zls_2_11
theorem zls_2_12 : ∀ w ∈ zl_2_12, w ∈ tables_1_2 := fun w hw => by
  rw [ztq_2]
  exact List.mem_append_right _ (List.mem_append_right _ (List.mem_append_right _ (List.mem_append_right _ (List.mem_append_right _ (List.mem_append_right _ (List.mem_append_right _ (List.mem_append_right _ (List.mem_append_right _ (List.mem_append_right _ (List.mem_append_right _ (List.mem_append_right _ (List.mem_append_left _ hw))))))))))))
def zlt_2_12 := zu_16 zls_2_12
theorem zls_2_13 : ∀ w ∈ zl_2_13, w ∈ tables_1_2 := fun w hw => by
  rw [ztq_2]
  exact List.mem_append_right _ (List.mem_append_right _ (List.mem_append_right _ (List.mem_append_right _ (List.mem_append_right _ (List.mem_append_right _ (List.mem_append_right _ (List.mem_append_right _ (List.mem_append_right _ (List.mem_append_right _ (List.mem_append_right _ (List.mem_append_right _ (List.mem_append_right _ (List.mem_append_left _ hw)))))))))))))
def zlt_2_13 := zu_16 zls_2_13
theorem zls_2_14 : ∀ w ∈ zl_2_14, w ∈ tables_1_2 := fun w hw => by
  rw [ztq_2]
  exact List.mem_append_right _ (List.mem_append_right _ (List.mem_append_right _ (List.mem_append_right _ (List.mem_append_right _ (List.mem_append_right _ (List.mem_append_right _ (List.mem_append_right _ (List.mem_append_right _ (List.mem_append_right _ (List.mem_append_right _ (List.mem_append_right _ (List.mem_append_right _ (List.mem_append_right _ (hw))))))))))))))
def zlt_2_14 := zu_16 zls_2_14
theorem z_mt3 {w : Cond} (h : w ∈ tables_1_3) (hg : goodWord w = true) : w ∈ za_Ts := List.mem_filter.mpr ⟨List.mem_append_right _ (show w ∈ tables_1 from List.mem_append_right _ (List.mem_append_right _ (h))), hg⟩
abbrev zl_3_0 : List Cond := [Jvm.Cond.instanceMethod ({ cls := "LyndonBench$Word", name := "stepLyndon", desc := "(II)V" } : Jvm.MethodName), Jvm.Cond.selects "LyndonBench$Word" ({ cls := "LyndonBench$Word", name := "stepLyndon", desc := "(II)V" } : Jvm.MethodName) ({ cls := "LyndonBench$Word", name := "stepLyndon", desc := "(II)V" } : Jvm.MethodName), Jvm.Cond.code ({ cls := "LyndonBench$Word", name := "stepLyndon", desc := "(II)V" } : Jvm.MethodName) prog_7_method_34_code (6 : Nat) (Option.none : Option Jvm.ClassFile.FieldType), Jvm.Cond.methodLink "LyndonBench$Word" (54 : Nat) ({ cls := "LyndonBench$Word", name := "shortenTo", desc := "(I)V" } : Jvm.MethodName), Jvm.Cond.methodLink "LyndonBenchLaw" (51 : Nat) ({ cls := "LyndonBench", name := "keptCount", desc := "()I" } : Jvm.MethodName), Jvm.Cond.instanceMethod ({ cls := "LyndonBench", name := "keptCount", desc := "()I" } : Jvm.MethodName), Jvm.Cond.selects "LyndonBench" ({ cls := "LyndonBench", name := "keptCount", desc := "()I" } : Jvm.MethodName) ({ cls := "LyndonBench", name := "keptCount", desc := "()I" } : Jvm.MethodName), Jvm.Cond.code ({ cls := "LyndonBench", name := "keptCount", desc := "()I" } : Jvm.MethodName) prog_1_method_51_code (1 : Nat) (Option.some Jvm.ClassFile.FieldType.int), Jvm.Cond.methodLink "LyndonBenchLaw" (54 : Nat) ({ cls := "LyndonBench", name := "factorCount", desc := "()I" } : Jvm.MethodName), Jvm.Cond.instanceMethod ({ cls := "LyndonBench", name := "factorCount", desc := "()I" } : Jvm.MethodName), Jvm.Cond.selects "LyndonBench" ({ cls := "LyndonBench", name := "factorCount", desc := "()I" } : Jvm.MethodName) ({ cls := "LyndonBench", name := "factorCount", desc := "()I" } : Jvm.MethodName), Jvm.Cond.code ({ cls := "LyndonBench", name := "factorCount", desc := "()I" } : Jvm.MethodName) prog_1_method_28_code (1 : Nat) (Option.some Jvm.ClassFile.FieldType.int), Jvm.Cond.methodLink "LyndonBenchLaw" (57 : Nat) ({ cls := "LyndonBench", name := "factorLength", desc := "(I)I" } : Jvm.MethodName), Jvm.Cond.instanceMethod ({ cls := "LyndonBench", name := "factorLength", desc := "(I)I" } : Jvm.MethodName), Jvm.Cond.selects "LyndonBench" ({ cls := "LyndonBench", name := "factorLength", desc := "(I)I" } : Jvm.MethodName) ({ cls := "LyndonBench", name := "factorLength", desc := "(I)I" } : Jvm.MethodName), Jvm.Cond.code ({ cls := "LyndonBench", name := "factorLength", desc := "(I)I" } : Jvm.MethodName) prog_1_method_30_code (3 : Nat) (Option.some Jvm.ClassFile.FieldType.int)]
abbrev zl_3_1 : List Cond := [Jvm.Cond.methodLink "LyndonBench" (172 : Nat) ({ cls := "LyndonBench", name := "checkedBegin", desc := "(I)I" } : Jvm.MethodName), Jvm.Cond.privateMethod ({ cls := "LyndonBench", name := "checkedBegin", desc := "(I)I" } : Jvm.MethodName), Jvm.Cond.instanceMethod ({ cls := "LyndonBench", name := "checkedBegin", desc := "(I)I" } : Jvm.MethodName), Jvm.Cond.code ({ cls := "LyndonBench", name := "checkedBegin", desc := "(I)I" } : Jvm.MethodName) prog_1_method_65_code (3 : Nat) (Option.some Jvm.ClassFile.FieldType.int), Jvm.Cond.methodLink "LyndonBench" (303 : Nat) ({ cls := "LyndonBench$Word", name := "beginOfFactor", desc := "(I)I" } : Jvm.MethodName), Jvm.Cond.instanceMethod ({ cls := "LyndonBench$Word", name := "beginOfFactor", desc := "(I)I" } : Jvm.MethodName), Jvm.Cond.selects "LyndonBench$Word" ({ cls := "LyndonBench$Word", name := "beginOfFactor", desc := "(I)I" } : Jvm.MethodName) ({ cls := "LyndonBench$Word", name := "beginOfFactor", desc := "(I)I" } : Jvm.MethodName), Jvm.Cond.code ({ cls := "LyndonBench$Word", name := "beginOfFactor", desc := "(I)I" } : Jvm.MethodName) prog_7_method_22_code (6 : Nat) (Option.some Jvm.ClassFile.FieldType.int), Jvm.Cond.classLink "LyndonBench" (192 : Nat) "java/lang/IndexOutOfBoundsException", Jvm.Cond.instantiable "java/lang/IndexOutOfBoundsException" (6 : Nat), Jvm.Cond.castable "java/lang/IndexOutOfBoundsException" "java/lang/IndexOutOfBoundsException", Jvm.Cond.selects "java/lang/IndexOutOfBoundsException" ({ cls := "java/lang/Throwable", name := "fillInStackTrace", desc := "(I)Ljava/lang/Throwable;" } : Jvm.MethodName) ({ cls := "java/lang/Throwable", name := "fillInStackTrace", desc := "(I)Ljava/lang/Throwable;" } : Jvm.MethodName), Jvm.Cond.lays "java/lang/IndexOutOfBoundsException" "java/lang/Throwable" "cause" "Ljava/lang/Throwable;", Jvm.Cond.lays "java/lang/IndexOutOfBoundsException" "java/lang/Throwable" "stackTrace" "[Ljava/lang/StackTraceElement;", Jvm.Cond.lays "java/lang/IndexOutOfBoundsException" "java/lang/Throwable" "suppressedExceptions" "Ljava/util/List;", Jvm.Cond.lays "java/lang/IndexOutOfBoundsException" "java/lang/Throwable" "detailMessage" "Ljava/lang/String;"]
abbrev zl_3_2 : List Cond := [Jvm.Cond.lays "java/lang/IndexOutOfBoundsException" "java/lang/Throwable" "backtrace" "Ljava/lang/Object;", Jvm.Cond.stringRef "LyndonBench" (306 : Nat) "there is no such factor", Jvm.Cond.methodLink "LyndonBench" (196 : Nat) ({ cls := "java/lang/IndexOutOfBoundsException", name := "<init>", desc := "(Ljava/lang/String;)V" } : Jvm.MethodName), Jvm.Cond.instanceMethod ({ cls := "java/lang/IndexOutOfBoundsException", name := "<init>", desc := "(Ljava/lang/String;)V" } : Jvm.MethodName), Jvm.Cond.code ({ cls := "java/lang/IndexOutOfBoundsException", name := "<init>", desc := "(Ljava/lang/String;)V" } : Jvm.MethodName) prog_13_method_2_code (2 : Nat) (Option.none : Option Jvm.ClassFile.FieldType), Jvm.Cond.methodLink "java/lang/IndexOutOfBoundsException" (7 : Nat) ({ cls := "java/lang/RuntimeException", name := "<init>", desc := "(Ljava/lang/String;)V" } : Jvm.MethodName), Jvm.Cond.lays "java/lang/IndexOutOfBoundsException" "java/lang/Throwable" "depth" "I", Jvm.Cond.superclass "java/lang/IndexOutOfBoundsException" "java/lang/RuntimeException", Jvm.Cond.methodLink "LyndonBench" (175 : Nat) ({ cls := "LyndonBench$Word", name := "lyndonEnd", desc := "(I)I" } : Jvm.MethodName), Jvm.Cond.methodLink "LyndonBenchLaw" (60 : Nat) ({ cls := "LyndonBench", name := "keepFactor", desc := "(I)I" } : Jvm.MethodName), Jvm.Cond.instanceMethod ({ cls := "LyndonBench", name := "keepFactor", desc := "(I)I" } : Jvm.MethodName), Jvm.Cond.selects "LyndonBench" ({ cls := "LyndonBench", name := "keepFactor", desc := "(I)I" } : Jvm.MethodName) ({ cls := "LyndonBench", name := "keepFactor", desc := "(I)I" } : Jvm.MethodName), Jvm.Cond.code ({ cls := "LyndonBench", name := "keepFactor", desc := "(I)I" } : Jvm.MethodName) prog_1_method_14_code (4 : Nat) (Option.some Jvm.ClassFile.FieldType.int), Jvm.Cond.methodLink "LyndonBench" (178 : Nat) ({ cls := "LyndonBench$State", name := "canKeep", desc := "(I)Z" } : Jvm.MethodName), Jvm.Cond.instanceMethod ({ cls := "LyndonBench$State", name := "canKeep", desc := "(I)Z" } : Jvm.MethodName), Jvm.Cond.selects "LyndonBench$State" ({ cls := "LyndonBench$State", name := "canKeep", desc := "(I)Z" } : Jvm.MethodName) ({ cls := "LyndonBench$State", name := "canKeep", desc := "(I)Z" } : Jvm.MethodName)]
abbrev zl_3_3 : List Cond := [Jvm.Cond.code ({ cls := "LyndonBench$State", name := "canKeep", desc := "(I)Z" } : Jvm.MethodName) prog_6_method_8_code (2 : Nat) (Option.some Jvm.ClassFile.FieldType.boolean), Jvm.Cond.stringRef "LyndonBench" (181 : Nat) "the factor can't be kept", Jvm.Cond.methodLink "LyndonBenchLaw" (63 : Nat) ({ cls := "LyndonBench", name := "keepText", desc := "()I" } : Jvm.MethodName), Jvm.Cond.instanceMethod ({ cls := "LyndonBench", name := "keepText", desc := "()I" } : Jvm.MethodName), Jvm.Cond.selects "LyndonBench" ({ cls := "LyndonBench", name := "keepText", desc := "()I" } : Jvm.MethodName) ({ cls := "LyndonBench", name := "keepText", desc := "()I" } : Jvm.MethodName), Jvm.Cond.code ({ cls := "LyndonBench", name := "keepText", desc := "()I" } : Jvm.MethodName) prog_1_method_15_code (1 : Nat) (Option.some Jvm.ClassFile.FieldType.int), Jvm.Cond.stringRef "LyndonBench" (186 : Nat) "the text can't be kept", Jvm.Cond.methodLink "LyndonBenchLaw" (66 : Nat) ({ cls := "LyndonBench", name := "removeKept", desc := "(I)I" } : Jvm.MethodName), Jvm.Cond.instanceMethod ({ cls := "LyndonBench", name := "removeKept", desc := "(I)I" } : Jvm.MethodName), Jvm.Cond.selects "LyndonBench" ({ cls := "LyndonBench", name := "removeKept", desc := "(I)I" } : Jvm.MethodName) ({ cls := "LyndonBench", name := "removeKept", desc := "(I)I" } : Jvm.MethodName), Jvm.Cond.code ({ cls := "LyndonBench", name := "removeKept", desc := "(I)I" } : Jvm.MethodName) prog_1_method_16_code (2 : Nat) (Option.some Jvm.ClassFile.FieldType.int), Jvm.Cond.methodLink "LyndonBench" (188 : Nat) ({ cls := "LyndonBench$State", name := "keptAt", desc := "(I)LLyndonBench$Word;" } : Jvm.MethodName), Jvm.Cond.stringRef "LyndonBench" (194 : Nat) "there is no such kept word", Jvm.Cond.methodLink "LyndonBench" (197 : Nat) ({ cls := "LyndonBench$State", name := "takeFromShelf", desc := "(I)V" } : Jvm.MethodName), Jvm.Cond.instanceMethod ({ cls := "LyndonBench$State", name := "takeFromShelf", desc := "(I)V" } : Jvm.MethodName), Jvm.Cond.selects "LyndonBench$State" ({ cls := "LyndonBench$State", name := "takeFromShelf", desc := "(I)V" } : Jvm.MethodName) ({ cls := "LyndonBench$State", name := "takeFromShelf", desc := "(I)V" } : Jvm.MethodName)]
abbrev zl_3_4 : List Cond := [Jvm.Cond.code ({ cls := "LyndonBench$State", name := "takeFromShelf", desc := "(I)V" } : Jvm.MethodName) prog_6_method_10_code (5 : Nat) (Option.none : Option Jvm.ClassFile.FieldType), Jvm.Cond.methodLink "LyndonBenchLaw" (69 : Nat) ({ cls := "LyndonBenchLaw", name := "shelf", desc := "(LLyndonBench;)I" } : Jvm.MethodName), Jvm.Cond.static ({ cls := "LyndonBenchLaw", name := "shelf", desc := "(LLyndonBench;)I" } : Jvm.MethodName), Jvm.Cond.code ({ cls := "LyndonBenchLaw", name := "shelf", desc := "(LLyndonBench;)I" } : Jvm.MethodName) method_4_code (3 : Nat) (Option.some Jvm.ClassFile.FieldType.int), Jvm.Cond.methodLink "LyndonBenchLaw" (85 : Nat) ({ cls := "LyndonBench", name := "keptLength", desc := "(I)I" } : Jvm.MethodName), Jvm.Cond.instanceMethod ({ cls := "LyndonBench", name := "keptLength", desc := "(I)I" } : Jvm.MethodName), Jvm.Cond.selects "LyndonBench" ({ cls := "LyndonBench", name := "keptLength", desc := "(I)I" } : Jvm.MethodName) ({ cls := "LyndonBench", name := "keptLength", desc := "(I)I" } : Jvm.MethodName), Jvm.Cond.code ({ cls := "LyndonBench", name := "keptLength", desc := "(I)I" } : Jvm.MethodName) prog_1_method_52_code (3 : Nat) (Option.some Jvm.ClassFile.FieldType.int), Jvm.Cond.methodLink "LyndonBenchLaw" (73 : Nat) ({ cls := "LyndonBench", name := "joinKept", desc := "()I" } : Jvm.MethodName), Jvm.Cond.instanceMethod ({ cls := "LyndonBench", name := "joinKept", desc := "()I" } : Jvm.MethodName), Jvm.Cond.selects "LyndonBench" ({ cls := "LyndonBench", name := "joinKept", desc := "()I" } : Jvm.MethodName) ({ cls := "LyndonBench", name := "joinKept", desc := "()I" } : Jvm.MethodName), Jvm.Cond.code ({ cls := "LyndonBench", name := "joinKept", desc := "()I" } : Jvm.MethodName) prog_1_method_17_code (1 : Nat) (Option.some Jvm.ClassFile.FieldType.int), Jvm.Cond.methodLink "LyndonBench" (200 : Nat) ({ cls := "LyndonBench$State", name := "canJoin", desc := "()Z" } : Jvm.MethodName), Jvm.Cond.instanceMethod ({ cls := "LyndonBench$State", name := "canJoin", desc := "()Z" } : Jvm.MethodName), Jvm.Cond.selects "LyndonBench$State" ({ cls := "LyndonBench$State", name := "canJoin", desc := "()Z" } : Jvm.MethodName) ({ cls := "LyndonBench$State", name := "canJoin", desc := "()Z" } : Jvm.MethodName), Jvm.Cond.code ({ cls := "LyndonBench$State", name := "canJoin", desc := "()Z" } : Jvm.MethodName) prog_6_method_12_code (4 : Nat) (Option.some Jvm.ClassFile.FieldType.boolean)]
abbrev zl_3_5 : List Cond := [Jvm.Cond.stringRef "LyndonBench" (203 : Nat) "the kept words can't be joined", Jvm.Cond.methodLink "LyndonBench" (205 : Nat) ({ cls := "LyndonBench$State", name := "joinShelf", desc := "()V" } : Jvm.MethodName), Jvm.Cond.instanceMethod ({ cls := "LyndonBench$State", name := "joinShelf", desc := "()V" } : Jvm.MethodName), Jvm.Cond.selects "LyndonBench$State" ({ cls := "LyndonBench$State", name := "joinShelf", desc := "()V" } : Jvm.MethodName) ({ cls := "LyndonBench$State", name := "joinShelf", desc := "()V" } : Jvm.MethodName), Jvm.Cond.code ({ cls := "LyndonBench$State", name := "joinShelf", desc := "()V" } : Jvm.MethodName) prog_6_method_13_code (5 : Nat) (Option.none : Option Jvm.ClassFile.FieldType), Jvm.Cond.methodLink "LyndonBench$State" (60 : Nat) ({ cls := "LyndonBench$State", name := "greatestOfShelf", desc := "(I)I" } : Jvm.MethodName), Jvm.Cond.instanceMethod ({ cls := "LyndonBench$State", name := "greatestOfShelf", desc := "(I)I" } : Jvm.MethodName), Jvm.Cond.selects "LyndonBench$State" ({ cls := "LyndonBench$State", name := "greatestOfShelf", desc := "(I)I" } : Jvm.MethodName) ({ cls := "LyndonBench$State", name := "greatestOfShelf", desc := "(I)I" } : Jvm.MethodName), Jvm.Cond.code ({ cls := "LyndonBench$State", name := "greatestOfShelf", desc := "(I)I" } : Jvm.MethodName) prog_6_method_11_code (6 : Nat) (Option.some Jvm.ClassFile.FieldType.int), Jvm.Cond.methodLink "LyndonBench$State" (56 : Nat) ({ cls := "LyndonBench$Word", name := "order", desc := "(IILLyndonBench$Word;II)I" } : Jvm.MethodName), Jvm.Cond.methodLink "LyndonBenchLaw" (76 : Nat) ({ cls := "LyndonBench", name := "cutPart", desc := "(II)I" } : Jvm.MethodName), Jvm.Cond.instanceMethod ({ cls := "LyndonBench", name := "cutPart", desc := "(II)I" } : Jvm.MethodName), Jvm.Cond.selects "LyndonBench" ({ cls := "LyndonBench", name := "cutPart", desc := "(II)I" } : Jvm.MethodName) ({ cls := "LyndonBench", name := "cutPart", desc := "(II)I" } : Jvm.MethodName), Jvm.Cond.code ({ cls := "LyndonBench", name := "cutPart", desc := "(II)I" } : Jvm.MethodName) prog_1_method_9_code (3 : Nat) (Option.some Jvm.ClassFile.FieldType.int), Jvm.Cond.methodLink "LyndonBench" (141 : Nat) ({ cls := "LyndonBench", name := "checkPart", desc := "(II)V" } : Jvm.MethodName), Jvm.Cond.privateMethod ({ cls := "LyndonBench", name := "checkPart", desc := "(II)V" } : Jvm.MethodName)]
abbrev zl_3_6 : List Cond := [Jvm.Cond.instanceMethod ({ cls := "LyndonBench", name := "checkPart", desc := "(II)V" } : Jvm.MethodName), Jvm.Cond.code ({ cls := "LyndonBench", name := "checkPart", desc := "(II)V" } : Jvm.MethodName) prog_1_method_63_code (3 : Nat) (Option.none : Option Jvm.ClassFile.FieldType), Jvm.Cond.stringRef "LyndonBench" (299 : Nat) "the text has no such part", Jvm.Cond.methodLink "LyndonBench" (145 : Nat) ({ cls := "LyndonBench$Word", name := "cutTo", desc := "(II)V" } : Jvm.MethodName), Jvm.Cond.instanceMethod ({ cls := "LyndonBench$Word", name := "cutTo", desc := "(II)V" } : Jvm.MethodName), Jvm.Cond.selects "LyndonBench$Word" ({ cls := "LyndonBench$Word", name := "cutTo", desc := "(II)V" } : Jvm.MethodName) ({ cls := "LyndonBench$Word", name := "cutTo", desc := "(II)V" } : Jvm.MethodName), Jvm.Cond.code ({ cls := "LyndonBench$Word", name := "cutTo", desc := "(II)V" } : Jvm.MethodName) prog_7_method_12_code (4 : Nat) (Option.none : Option Jvm.ClassFile.FieldType), Jvm.Cond.methodLink "LyndonBenchLaw" (79 : Nat) ({ cls := "java/lang/Math", name := "max", desc := "(II)I" } : Jvm.MethodName), Jvm.Cond.methodLink "LyndonBenchLaw" (82 : Nat) ({ cls := "LyndonBench", name := "setLetters", desc := "(I)I" } : Jvm.MethodName), Jvm.Cond.instanceMethod ({ cls := "LyndonBench", name := "setLetters", desc := "(I)I" } : Jvm.MethodName), Jvm.Cond.selects "LyndonBench" ({ cls := "LyndonBench", name := "setLetters", desc := "(I)I" } : Jvm.MethodName) ({ cls := "LyndonBench", name := "setLetters", desc := "(I)I" } : Jvm.MethodName), Jvm.Cond.code ({ cls := "LyndonBench", name := "setLetters", desc := "(I)I" } : Jvm.MethodName) prog_1_method_5_code (3 : Nat) (Option.some Jvm.ClassFile.FieldType.int), Jvm.Cond.stringRef "LyndonBench" (102 : Nat) "there are 2 to 9 letters", Jvm.Cond.methodLink "LyndonBench" (104 : Nat) ({ cls := "LyndonBench$State", name := "fitsLetters", desc := "(I)Z" } : Jvm.MethodName), Jvm.Cond.instanceMethod ({ cls := "LyndonBench$State", name := "fitsLetters", desc := "(I)Z" } : Jvm.MethodName), Jvm.Cond.selects "LyndonBench$State" ({ cls := "LyndonBench$State", name := "fitsLetters", desc := "(I)Z" } : Jvm.MethodName) ({ cls := "LyndonBench$State", name := "fitsLetters", desc := "(I)Z" } : Jvm.MethodName)]
abbrev zl_3_7 : List Cond := [Jvm.Cond.code ({ cls := "LyndonBench$State", name := "fitsLetters", desc := "(I)Z" } : Jvm.MethodName) prog_6_method_6_code (4 : Nat) (Option.some Jvm.ClassFile.FieldType.boolean), Jvm.Cond.methodLink "LyndonBench$State" (49 : Nat) ({ cls := "LyndonBench$Word", name := "fitsLetters", desc := "(I)Z" } : Jvm.MethodName), Jvm.Cond.instanceMethod ({ cls := "LyndonBench$Word", name := "fitsLetters", desc := "(I)Z" } : Jvm.MethodName), Jvm.Cond.selects "LyndonBench$Word" ({ cls := "LyndonBench$Word", name := "fitsLetters", desc := "(I)Z" } : Jvm.MethodName) ({ cls := "LyndonBench$Word", name := "fitsLetters", desc := "(I)Z" } : Jvm.MethodName), Jvm.Cond.code ({ cls := "LyndonBench$Word", name := "fitsLetters", desc := "(I)Z" } : Jvm.MethodName) prog_7_method_15_code (3 : Nat) (Option.some Jvm.ClassFile.FieldType.boolean), Jvm.Cond.stringRef "LyndonBench" (110 : Nat) "a letter is still used", Jvm.Cond.methodLink "LyndonBenchLaw" (133 : Nat) ({ cls := "LyndonBenchLaw", name := "holds", desc := "(LLyndonBench;)Z" } : Jvm.MethodName), Jvm.Cond.static ({ cls := "LyndonBenchLaw", name := "holds", desc := "(LLyndonBench;)Z" } : Jvm.MethodName), Jvm.Cond.code ({ cls := "LyndonBenchLaw", name := "holds", desc := "(LLyndonBench;)Z" } : Jvm.MethodName) method_9_code (8 : Nat) (Option.some Jvm.ClassFile.FieldType.boolean), Jvm.Cond.methodLink "LyndonBenchLaw" (100 : Nat) ({ cls := "LyndonBenchLaw", name := "word", desc := "(LLyndonBench;)[I" } : Jvm.MethodName), Jvm.Cond.static ({ cls := "LyndonBenchLaw", name := "word", desc := "(LLyndonBench;)[I" } : Jvm.MethodName), Jvm.Cond.code ({ cls := "LyndonBenchLaw", name := "word", desc := "(LLyndonBench;)[I" } : Jvm.MethodName) method_6_code (3 : Nat) (Option.some (Jvm.ClassFile.FieldType.array Jvm.ClassFile.FieldType.int)), Jvm.Cond.methodLink "LyndonBenchLaw" (104 : Nat) ({ cls := "LyndonBench", name := "violations", desc := "()I" } : Jvm.MethodName), Jvm.Cond.instanceMethod ({ cls := "LyndonBench", name := "violations", desc := "()I" } : Jvm.MethodName), Jvm.Cond.selects "LyndonBench" ({ cls := "LyndonBench", name := "violations", desc := "()I" } : Jvm.MethodName) ({ cls := "LyndonBench", name := "violations", desc := "()I" } : Jvm.MethodName), Jvm.Cond.code ({ cls := "LyndonBench", name := "violations", desc := "()I" } : Jvm.MethodName) prog_1_method_58_code (7 : Nat) (Option.some Jvm.ClassFile.FieldType.int)]
abbrev zl_3_8 : List Cond := [Jvm.Cond.methodLink "LyndonBench" (289 : Nat) ({ cls := "LyndonBench$Word", name := "isLyndonPart", desc := "(II)Z" } : Jvm.MethodName), Jvm.Cond.instanceMethod ({ cls := "LyndonBench$Word", name := "isLyndonPart", desc := "(II)Z" } : Jvm.MethodName), Jvm.Cond.selects "LyndonBench$Word" ({ cls := "LyndonBench$Word", name := "isLyndonPart", desc := "(II)Z" } : Jvm.MethodName) ({ cls := "LyndonBench$Word", name := "isLyndonPart", desc := "(II)Z" } : Jvm.MethodName), Jvm.Cond.code ({ cls := "LyndonBench$Word", name := "isLyndonPart", desc := "(II)Z" } : Jvm.MethodName) prog_7_method_26_code (4 : Nat) (Option.some Jvm.ClassFile.FieldType.boolean), Jvm.Cond.methodLink "LyndonBench" (226 : Nat) ({ cls := "LyndonBench$Word", name := "order", desc := "(IILLyndonBench$Word;II)I" } : Jvm.MethodName), Jvm.Cond.methodLink "LyndonBench" (262 : Nat) ({ cls := "LyndonBench$Word", name := "extremeEnding", desc := "(I)I" } : Jvm.MethodName), Jvm.Cond.instanceMethod ({ cls := "LyndonBench$Word", name := "extremeEnding", desc := "(I)I" } : Jvm.MethodName), Jvm.Cond.selects "LyndonBench$Word" ({ cls := "LyndonBench$Word", name := "extremeEnding", desc := "(I)I" } : Jvm.MethodName) ({ cls := "LyndonBench$Word", name := "extremeEnding", desc := "(I)I" } : Jvm.MethodName), Jvm.Cond.code ({ cls := "LyndonBench$Word", name := "extremeEnding", desc := "(I)I" } : Jvm.MethodName) prog_7_method_33_code (4 : Nat) (Option.some Jvm.ClassFile.FieldType.int), Jvm.Cond.methodLink "LyndonBenchLaw" (107 : Nat) ({ cls := "LyndonBench", name := "factorStart", desc := "(I)I" } : Jvm.MethodName), Jvm.Cond.instanceMethod ({ cls := "LyndonBench", name := "factorStart", desc := "(I)I" } : Jvm.MethodName), Jvm.Cond.selects "LyndonBench" ({ cls := "LyndonBench", name := "factorStart", desc := "(I)I" } : Jvm.MethodName) ({ cls := "LyndonBench", name := "factorStart", desc := "(I)I" } : Jvm.MethodName), Jvm.Cond.code ({ cls := "LyndonBench", name := "factorStart", desc := "(I)I" } : Jvm.MethodName) prog_1_method_29_code (2 : Nat) (Option.some Jvm.ClassFile.FieldType.int), Jvm.Cond.methodLink "LyndonBenchLaw" (110 : Nat) ({ cls := "LyndonBenchLaw", name := "isLyndon", desc := "([III)Z" } : Jvm.MethodName), Jvm.Cond.static ({ cls := "LyndonBenchLaw", name := "isLyndon", desc := "([III)Z" } : Jvm.MethodName), Jvm.Cond.code ({ cls := "LyndonBenchLaw", name := "isLyndon", desc := "([III)Z" } : Jvm.MethodName) method_8_code (4 : Nat) (Option.some Jvm.ClassFile.FieldType.boolean)]
abbrev zl_3_9 : List Cond := [Jvm.Cond.methodLink "LyndonBenchLaw" (96 : Nat) ({ cls := "LyndonBenchLaw", name := "order", desc := "([III[III)I" } : Jvm.MethodName), Jvm.Cond.static ({ cls := "LyndonBenchLaw", name := "order", desc := "([III[III)I" } : Jvm.MethodName), Jvm.Cond.code ({ cls := "LyndonBenchLaw", name := "order", desc := "([III[III)I" } : Jvm.MethodName) method_7_code (7 : Nat) (Option.some Jvm.ClassFile.FieldType.int), Jvm.Cond.methodLink "LyndonBenchLaw" (91 : Nat) ({ cls := "java/lang/Integer", name := "compare", desc := "(II)I" } : Jvm.MethodName), Jvm.Cond.static ({ cls := "java/lang/Integer", name := "compare", desc := "(II)I" } : Jvm.MethodName), Jvm.Cond.code ({ cls := "java/lang/Integer", name := "compare", desc := "(II)I" } : Jvm.MethodName) prog_14_method_40_code (2 : Nat) (Option.some Jvm.ClassFile.FieldType.int), Jvm.Cond.methodLink "LyndonBenchLaw" (113 : Nat) ({ cls := "LyndonBench", name := "factorOf", desc := "(I)I" } : Jvm.MethodName), Jvm.Cond.instanceMethod ({ cls := "LyndonBench", name := "factorOf", desc := "(I)I" } : Jvm.MethodName), Jvm.Cond.selects "LyndonBench" ({ cls := "LyndonBench", name := "factorOf", desc := "(I)I" } : Jvm.MethodName) ({ cls := "LyndonBench", name := "factorOf", desc := "(I)I" } : Jvm.MethodName), Jvm.Cond.code ({ cls := "LyndonBench", name := "factorOf", desc := "(I)I" } : Jvm.MethodName) prog_1_method_32_code (2 : Nat) (Option.some Jvm.ClassFile.FieldType.int), Jvm.Cond.methodLink "LyndonBench" (234 : Nat) ({ cls := "LyndonBench$Word", name := "factorWith", desc := "(I)I" } : Jvm.MethodName), Jvm.Cond.instanceMethod ({ cls := "LyndonBench$Word", name := "factorWith", desc := "(I)I" } : Jvm.MethodName), Jvm.Cond.selects "LyndonBench$Word" ({ cls := "LyndonBench$Word", name := "factorWith", desc := "(I)I" } : Jvm.MethodName) ({ cls := "LyndonBench$Word", name := "factorWith", desc := "(I)I" } : Jvm.MethodName), Jvm.Cond.code ({ cls := "LyndonBench$Word", name := "factorWith", desc := "(I)I" } : Jvm.MethodName) prog_7_method_23_code (7 : Nat) (Option.some Jvm.ClassFile.FieldType.int), Jvm.Cond.methodLink "LyndonBenchLaw" (116 : Nat) ({ cls := "LyndonBench", name := "keptLetter", desc := "(II)I" } : Jvm.MethodName), Jvm.Cond.instanceMethod ({ cls := "LyndonBench", name := "keptLetter", desc := "(II)I" } : Jvm.MethodName)]
abbrev zl_3_10 : List Cond := [Jvm.Cond.selects "LyndonBench" ({ cls := "LyndonBench", name := "keptLetter", desc := "(II)I" } : Jvm.MethodName) ({ cls := "LyndonBench", name := "keptLetter", desc := "(II)I" } : Jvm.MethodName), Jvm.Cond.code ({ cls := "LyndonBench", name := "keptLetter", desc := "(II)I" } : Jvm.MethodName) prog_1_method_53_code (4 : Nat) (Option.some Jvm.ClassFile.FieldType.int), Jvm.Cond.methodLink "LyndonBenchLaw" (119 : Nat) ({ cls := "LyndonBench", name := "leastSuffix", desc := "()I" } : Jvm.MethodName), Jvm.Cond.instanceMethod ({ cls := "LyndonBench", name := "leastSuffix", desc := "()I" } : Jvm.MethodName), Jvm.Cond.selects "LyndonBench" ({ cls := "LyndonBench", name := "leastSuffix", desc := "()I" } : Jvm.MethodName) ({ cls := "LyndonBench", name := "leastSuffix", desc := "()I" } : Jvm.MethodName), Jvm.Cond.code ({ cls := "LyndonBench", name := "leastSuffix", desc := "()I" } : Jvm.MethodName) prog_1_method_46_code (1 : Nat) (Option.some Jvm.ClassFile.FieldType.int), Jvm.Cond.methodLink "LyndonBenchLaw" (147 : Nat) ({ cls := "LyndonBenchLaw", name := "sum", desc := "(LLyndonBench;)J" } : Jvm.MethodName), Jvm.Cond.static ({ cls := "LyndonBenchLaw", name := "sum", desc := "(LLyndonBench;)J" } : Jvm.MethodName), Jvm.Cond.code ({ cls := "LyndonBenchLaw", name := "sum", desc := "(LLyndonBench;)J" } : Jvm.MethodName) method_10_code (5 : Nat) (Option.some Jvm.ClassFile.FieldType.long), Jvm.Cond.constantLong "LyndonBenchLaw" (122 : Nat) (10 : Int64), Jvm.Cond.constantLong "LyndonBenchLaw" (124 : Nat) (2000 : Int64), Jvm.Cond.constantLong "LyndonBenchLaw" (126 : Nat) (31 : Int64), Jvm.Cond.constantLong "LyndonBenchLaw" (128 : Nat) (37 : Int64), Jvm.Cond.methodLink "LyndonBenchLaw" (155 : Nat) ({ cls := "LyndonBenchLaw", name := "isAppended", desc := "(LLyndonBench;I)Z" } : Jvm.MethodName), Jvm.Cond.static ({ cls := "LyndonBenchLaw", name := "isAppended", desc := "(LLyndonBench;I)Z" } : Jvm.MethodName), Jvm.Cond.code ({ cls := "LyndonBenchLaw", name := "isAppended", desc := "(LLyndonBench;I)Z" } : Jvm.MethodName) method_11_code (11 : Nat) (Option.some Jvm.ClassFile.FieldType.boolean)]
abbrev zl_3_11 : List Cond := [Jvm.Cond.methodLink "LyndonBenchLaw" (130 : Nat) ({ cls := "LyndonBench", name := "factorsIfAppended", desc := "(I)I" } : Jvm.MethodName), Jvm.Cond.instanceMethod ({ cls := "LyndonBench", name := "factorsIfAppended", desc := "(I)I" } : Jvm.MethodName), Jvm.Cond.selects "LyndonBench" ({ cls := "LyndonBench", name := "factorsIfAppended", desc := "(I)I" } : Jvm.MethodName) ({ cls := "LyndonBench", name := "factorsIfAppended", desc := "(I)I" } : Jvm.MethodName), Jvm.Cond.code ({ cls := "LyndonBench", name := "factorsIfAppended", desc := "(I)I" } : Jvm.MethodName) prog_1_method_34_code (2 : Nat) (Option.some Jvm.ClassFile.FieldType.int), Jvm.Cond.methodLink "LyndonBench" (240 : Nat) ({ cls := "LyndonBench$Word", name := "copyFrom", desc := "(LLyndonBench$Word;)V" } : Jvm.MethodName), Jvm.Cond.sameMethod "java/lang/Throwable" "java/lang/Throwable" "fillInStackTrace" "(I)Ljava/lang/Throwable;", Jvm.Cond.fieldLink "java/lang/String" (9 : Nat) "java/lang/String" "value" "[B", Jvm.Cond.fieldLink "java/lang/String" (15 : Nat) "java/lang/String" "coder" "B"]
set_option maxRecDepth 100000 in
theorem ztq_3 : tables_1_3 = zl_3_0 ++ (zl_3_1 ++ (zl_3_2 ++ (zl_3_3 ++ (zl_3_4 ++ (zl_3_5 ++ (zl_3_6 ++ (zl_3_7 ++ (zl_3_8 ++ (zl_3_9 ++ (zl_3_10 ++ (zl_3_11))))))))))) := rfl
theorem zls_3_0 : ∀ w ∈ zl_3_0, w ∈ tables_1_3 := fun w hw => by
  rw [ztq_3]
  exact List.mem_append_left _ hw
def zlt_3_0 := zu_16 zls_3_0
theorem zls_3_1 : ∀ w ∈ zl_3_1, w ∈ tables_1_3 := fun w hw => by
  rw [ztq_3]
  exact List.mem_append_right _ (List.mem_append_left _ hw)
def zlt_3_1 := zu_16 zls_3_1
theorem zls_3_2 : ∀ w ∈ zl_3_2, w ∈ tables_1_3 := fun w hw => by
  rw [ztq_3]
  exact List.mem_append_right _ (List.mem_append_right _ (List.mem_append_left _ hw))
def zlt_3_2 := zu_16 zls_3_2
theorem zls_3_3 : ∀ w ∈ zl_3_3, w ∈ tables_1_3 := fun w hw => by
  rw [ztq_3]
  exact List.mem_append_right _ (List.mem_append_right _ (List.mem_append_right _ (List.mem_append_left _ hw)))
def zlt_3_3 := zu_16 zls_3_3
theorem zls_3_4 : ∀ w ∈ zl_3_4, w ∈ tables_1_3 := fun w hw => by
  rw [ztq_3]
  exact List.mem_append_right _ (List.mem_append_right _ (List.mem_append_right _ (List.mem_append_right _ (List.mem_append_left _ hw))))
def zlt_3_4 := zu_16 zls_3_4
theorem zls_3_5 : ∀ w ∈ zl_3_5, w ∈ tables_1_3 := fun w hw => by
  rw [ztq_3]
  exact List.mem_append_right _ (List.mem_append_right _ (List.mem_append_right _ (List.mem_append_right _ (List.mem_append_right _ (List.mem_append_left _ hw)))))
def zlt_3_5 := zu_16 zls_3_5
theorem zls_3_6 : ∀ w ∈ zl_3_6, w ∈ tables_1_3 := fun w hw => by
  rw [ztq_3]
  exact List.mem_append_right _ (List.mem_append_right _ (List.mem_append_right _ (List.mem_append_right _ (List.mem_append_right _ (List.mem_append_right _ (List.mem_append_left _ hw))))))
def zlt_3_6 := zu_16 zls_3_6
theorem zls_3_7 : ∀ w ∈ zl_3_7, w ∈ tables_1_3 := fun w hw => by
  rw [ztq_3]
  exact List.mem_append_right _ (List.mem_append_right _ (List.mem_append_right _ (List.mem_append_right _ (List.mem_append_right _ (List.mem_append_right _ (List.mem_append_right _ (List.mem_append_left _ hw)))))))
def zlt_3_7 := zu_16 zls_3_7
theorem zls_3_8 : ∀ w ∈ zl_3_8, w ∈ tables_1_3 := fun w hw => by
  rw [ztq_3]
  exact List.mem_append_right _ (List.mem_append_right _ (List.mem_append_right _ (List.mem_append_right _ (List.mem_append_right _ (List.mem_append_right _ (List.mem_append_right _ (List.mem_append_right _ (List.mem_append_left _ hw))))))))
def zlt_3_8 := zu_16 zls_3_8
theorem zls_3_9 : ∀ w ∈ zl_3_9, w ∈ tables_1_3 := fun w hw => by
  rw [ztq_3]
  exact List.mem_append_right _ (List.mem_append_right _ (List.mem_append_right _ (List.mem_append_right _ (List.mem_append_right _ (List.mem_append_right _ (List.mem_append_right _ (List.mem_append_right _ (List.mem_append_right _ (List.mem_append_left _ hw)))))))))
def zlt_3_9 := zu_16 zls_3_9
theorem zls_3_10 : ∀ w ∈ zl_3_10, w ∈ tables_1_3 := fun w hw => by
  rw [ztq_3]
  exact List.mem_append_right _ (List.mem_append_right _ (List.mem_append_right _ (List.mem_append_right _ (List.mem_append_right _ (List.mem_append_right _ (List.mem_append_right _ (List.mem_append_right _ (List.mem_append_right _ (List.mem_append_right _ (List.mem_append_left _ hw))))))))))
def zlt_3_10 := zu_16 zls_3_10
theorem zls_3_11 : ∀ w ∈ zl_3_11, w ∈ tables_1_3 := fun w hw => by
  rw [ztq_3]
  exact List.mem_append_right _ (List.mem_append_right _ (List.mem_append_right _ (List.mem_append_right _ (List.mem_append_right _ (List.mem_append_right _ (List.mem_append_right _ (List.mem_append_right _ (List.mem_append_right _ (List.mem_append_right _ (List.mem_append_right _ (hw)))))))))))
def zlt_3_11 := zu_8 zls_3_11
theorem zw_0 : Jvm.Cond.selects "LyndonBench" ({ cls := "LyndonBench", name := "checkLetter", desc := "(I)V" } : Jvm.MethodName) ({ cls := "LyndonBench", name := "checkLetter", desc := "(I)V" } : Jvm.MethodName) ∈ za_Ts := z_mem 0 (by decide +kernel) rfl
theorem zw_2 : Jvm.Cond.selects "LyndonBench$History" ({ cls := "LyndonBench$History", name := "forgetOldest", desc := "()V" } : Jvm.MethodName) ({ cls := "LyndonBench$History", name := "forgetOldest", desc := "()V" } : Jvm.MethodName) ∈ za_Ts := z_mem 2 (by decide +kernel) rfl
theorem zw_3 : Jvm.Cond.selects "LyndonBench" ({ cls := "LyndonBench", name := "checkCount", desc := "(I)V" } : Jvm.MethodName) ({ cls := "LyndonBench", name := "checkCount", desc := "(I)V" } : Jvm.MethodName) ∈ za_Ts := z_mem 3 (by decide +kernel) rfl
theorem zw_4 : Jvm.Cond.selects "LyndonBench$Word" ({ cls := "LyndonBench$Word", name := "put", desc := "(II)V" } : Jvm.MethodName) ({ cls := "LyndonBench$Word", name := "put", desc := "(II)V" } : Jvm.MethodName) ∈ za_Ts := z_mem 4 (by decide +kernel) rfl
theorem zw_5 : Jvm.Cond.selects "LyndonBench$Word" ({ cls := "LyndonBench$Word", name := "atAround", desc := "(I)I" } : Jvm.MethodName) ({ cls := "LyndonBench$Word", name := "atAround", desc := "(I)I" } : Jvm.MethodName) ∈ za_Ts := z_mem 5 (by decide +kernel) rfl
theorem zw_6 : Jvm.Cond.selects "LyndonBench" ({ cls := "LyndonBench", name := "checkedBegin", desc := "(I)I" } : Jvm.MethodName) ({ cls := "LyndonBench", name := "checkedBegin", desc := "(I)I" } : Jvm.MethodName) ∈ za_Ts := z_mem 6 (by decide +kernel) rfl
theorem zw_7 : Jvm.Cond.selects "LyndonBench" ({ cls := "LyndonBench", name := "checkPart", desc := "(II)V" } : Jvm.MethodName) ({ cls := "LyndonBench", name := "checkPart", desc := "(II)V" } : Jvm.MethodName) ∈ za_Ts := z_mem 7 (by decide +kernel) rfl
def zw_8 := z_mt1 zlt_1_0.1 rfl
def zw_9 := z_mt1 zlt_1_0.2.1 rfl
def zw_10 := z_mt1 zlt_1_0.2.2.1 rfl
def zw_11 := z_mt1 zlt_1_0.2.2.2.1 rfl
def zw_12 := z_mt1 zlt_1_0.2.2.2.2.1 rfl
def zw_13 := z_mt1 zlt_1_0.2.2.2.2.2.1 rfl
def zw_14 := z_mt1 zlt_1_0.2.2.2.2.2.2.1 rfl
def zw_15 := z_mt1 zlt_1_0.2.2.2.2.2.2.2.1 rfl
def zw_16 := z_mt1 zlt_1_0.2.2.2.2.2.2.2.2.1 rfl
def zw_17 := z_mt1 zlt_1_0.2.2.2.2.2.2.2.2.2.1 rfl
def zw_23 := z_mt1 zlt_1_0.2.2.2.2.2.2.2.2.2.2.2.2.2.2.2 rfl
def zw_26 := z_mt1 zlt_1_1.2.2.1 rfl
def zw_27 := z_mt1 zlt_1_1.2.2.2.1 rfl
def zw_28 := z_mt1 zlt_1_1.2.2.2.2.1 rfl
def zw_29 := z_mt1 zlt_1_1.2.2.2.2.2.1 rfl
def zw_30 := z_mt1 zlt_1_1.2.2.2.2.2.2.1 rfl
def zw_31 := z_mt1 zlt_1_1.2.2.2.2.2.2.2.1 rfl
def zw_32 := z_mt1 zlt_1_1.2.2.2.2.2.2.2.2.1 rfl
def zw_33 := z_mt1 zlt_1_1.2.2.2.2.2.2.2.2.2.1 rfl
def zw_34 := z_mt1 zlt_1_1.2.2.2.2.2.2.2.2.2.2.1 rfl
def zw_35 := z_mt1 zlt_1_1.2.2.2.2.2.2.2.2.2.2.2.1 rfl
def zw_36 := z_mt1 zlt_1_1.2.2.2.2.2.2.2.2.2.2.2.2.1 rfl
def zw_37 := z_mt1 zlt_1_1.2.2.2.2.2.2.2.2.2.2.2.2.2.1 rfl
def zw_38 := z_mt1 zlt_1_1.2.2.2.2.2.2.2.2.2.2.2.2.2.2.1 rfl
def zw_39 := z_mt1 zlt_1_1.2.2.2.2.2.2.2.2.2.2.2.2.2.2.2 rfl
def zw_40 := z_mt1 zlt_1_2.1 rfl
def zw_41 := z_mt1 zlt_1_2.2.1 rfl
def zw_42 := z_mt1 zlt_1_2.2.2.1 rfl
def zw_43 := z_mt1 zlt_1_2.2.2.2.1 rfl
def zw_44 := z_mt1 zlt_1_2.2.2.2.2.1 rfl
def zw_45 := z_mt1 zlt_1_2.2.2.2.2.2.1 rfl
def zw_46 := z_mt1 zlt_1_2.2.2.2.2.2.2.1 rfl
def zw_47 := z_mt1 zlt_1_2.2.2.2.2.2.2.2.1 rfl
def zw_48 := z_mt1 zlt_1_2.2.2.2.2.2.2.2.2.1 rfl
def zw_49 := z_mt1 zlt_1_2.2.2.2.2.2.2.2.2.2.1 rfl
def zw_50 := z_mt1 zlt_1_2.2.2.2.2.2.2.2.2.2.2.1 rfl
def zw_51 := z_mt1 zlt_1_2.2.2.2.2.2.2.2.2.2.2.2.1 rfl
def zw_52 := z_mt1 zlt_1_2.2.2.2.2.2.2.2.2.2.2.2.2.1 rfl
def zw_58 := z_mt1 zlt_1_3.2.2.1 rfl
def zw_60 := z_mt1 zlt_1_3.2.2.2.2.1 rfl
def zw_61 := z_mt1 zlt_1_3.2.2.2.2.2.1 rfl
def zw_62 := z_mt1 zlt_1_3.2.2.2.2.2.2.1 rfl
def zw_63 := z_mt1 zlt_1_3.2.2.2.2.2.2.2.1 rfl
def zw_64 := z_mt1 zlt_1_3.2.2.2.2.2.2.2.2.1 rfl
def zw_65 := z_mt1 zlt_1_3.2.2.2.2.2.2.2.2.2.1 rfl
def zw_66 := z_mt1 zlt_1_3.2.2.2.2.2.2.2.2.2.2.1 rfl
def zw_76 := z_mt1 zlt_1_4.2.2.2.2.1 rfl
def zw_77 := z_mt1 zlt_1_4.2.2.2.2.2.1 rfl
def zw_78 := z_mt1 zlt_1_4.2.2.2.2.2.2.1 rfl
def zw_79 := z_mt1 zlt_1_4.2.2.2.2.2.2.2.1 rfl
def zw_80 := z_mt1 zlt_1_4.2.2.2.2.2.2.2.2.1 rfl
def zw_81 := z_mt1 zlt_1_4.2.2.2.2.2.2.2.2.2.1 rfl
def zw_82 := z_mt1 zlt_1_4.2.2.2.2.2.2.2.2.2.2.1 rfl
def zw_84 := z_mt1 zlt_1_4.2.2.2.2.2.2.2.2.2.2.2.2.1 rfl
def zw_85 := z_mt1 zlt_1_4.2.2.2.2.2.2.2.2.2.2.2.2.2.1 rfl
def zw_86 := z_mt1 zlt_1_4.2.2.2.2.2.2.2.2.2.2.2.2.2.2.1 rfl
def zw_87 := z_mt1 zlt_1_4.2.2.2.2.2.2.2.2.2.2.2.2.2.2.2 rfl
def zw_93 := z_mt1 zlt_1_5.2.2.2.2.2.1 rfl
def zw_94 := z_mt1 zlt_1_5.2.2.2.2.2.2.1 rfl
def zw_96 := z_mt1 zlt_1_5.2.2.2.2.2.2.2.2.1 rfl
def zw_97 := z_mt1 zlt_1_5.2.2.2.2.2.2.2.2.2.1 rfl
def zw_98 := z_mt1 zlt_1_5.2.2.2.2.2.2.2.2.2.2.1 rfl
def zw_99 := z_mt1 zlt_1_5.2.2.2.2.2.2.2.2.2.2.2.1 rfl
def zw_100 := z_mt1 zlt_1_5.2.2.2.2.2.2.2.2.2.2.2.2.1 rfl
def zw_101 := z_mt1 zlt_1_5.2.2.2.2.2.2.2.2.2.2.2.2.2.1 rfl
def zw_102 := z_mt1 zlt_1_5.2.2.2.2.2.2.2.2.2.2.2.2.2.2.1 rfl
def zw_103 := z_mt1 zlt_1_5.2.2.2.2.2.2.2.2.2.2.2.2.2.2.2 rfl
def zw_104 := z_mt1 zlt_1_6.1 rfl
def zw_105 := z_mt1 zlt_1_6.2.1 rfl
def zw_106 := z_mt1 zlt_1_6.2.2.1 rfl
def zw_107 := z_mt1 zlt_1_6.2.2.2.1 rfl
def zw_108 := z_mt1 zlt_1_6.2.2.2.2.1 rfl
def zw_109 := z_mt1 zlt_1_6.2.2.2.2.2.1 rfl
def zw_110 := z_mt1 zlt_1_6.2.2.2.2.2.2.1 rfl
def zw_111 := z_mt1 zlt_1_6.2.2.2.2.2.2.2.1 rfl
def zw_112 := z_mt1 zlt_1_6.2.2.2.2.2.2.2.2.1 rfl
def zw_113 := z_mt1 zlt_1_6.2.2.2.2.2.2.2.2.2.1 rfl
def zw_114 := z_mt1 zlt_1_6.2.2.2.2.2.2.2.2.2.2.1 rfl
def zw_140 := z_mt1 zlt_1_8.2.2.2.2.1 rfl
def zw_141 := z_mt1 zlt_1_8.2.2.2.2.2.1 rfl
def zw_142 := z_mt1 zlt_1_8.2.2.2.2.2.2.1 rfl
def zw_143 := z_mt1 zlt_1_8.2.2.2.2.2.2.2.1 rfl
def zw_144 := z_mt1 zlt_1_8.2.2.2.2.2.2.2.2.1 rfl
def zw_145 := z_mt1 zlt_1_8.2.2.2.2.2.2.2.2.2.1 rfl
def zw_146 := z_mt1 zlt_1_8.2.2.2.2.2.2.2.2.2.2.1 rfl
def zw_147 := z_mt1 zlt_1_8.2.2.2.2.2.2.2.2.2.2.2.1 rfl
def zw_148 := z_mt1 zlt_1_8.2.2.2.2.2.2.2.2.2.2.2.2.1 rfl
def zw_149 := z_mt1 zlt_1_8.2.2.2.2.2.2.2.2.2.2.2.2.2.1 rfl
def zw_150 := z_mt1 zlt_1_8.2.2.2.2.2.2.2.2.2.2.2.2.2.2.1 rfl
def zw_152 := z_mt1 zlt_1_9.1 rfl
def zw_153 := z_mt1 zlt_1_9.2.1 rfl
def zw_154 := z_mt1 zlt_1_9.2.2.1 rfl
def zw_155 := z_mt1 zlt_1_9.2.2.2.1 rfl
def zw_156 := z_mt1 zlt_1_9.2.2.2.2.1 rfl
def zw_157 := z_mt1 zlt_1_9.2.2.2.2.2.1 rfl
def zw_158 := z_mt1 zlt_1_9.2.2.2.2.2.2.1 rfl
def zw_159 := z_mt1 zlt_1_9.2.2.2.2.2.2.2.1 rfl
def zw_160 := z_mt1 zlt_1_9.2.2.2.2.2.2.2.2.1 rfl
def zw_161 := z_mt1 zlt_1_9.2.2.2.2.2.2.2.2.2.1 rfl
def zw_162 := z_mt1 zlt_1_9.2.2.2.2.2.2.2.2.2.2.1 rfl
def zw_163 := z_mt1 zlt_1_9.2.2.2.2.2.2.2.2.2.2.2.1 rfl
def zw_164 := z_mt1 zlt_1_9.2.2.2.2.2.2.2.2.2.2.2.2.1 rfl
def zw_166 := z_mt1 zlt_1_9.2.2.2.2.2.2.2.2.2.2.2.2.2.2.1 rfl
def zw_167 := z_mt1 zlt_1_9.2.2.2.2.2.2.2.2.2.2.2.2.2.2.2 rfl
def zw_168 := z_mt1 zlt_1_10.1 rfl
def zw_169 := z_mt1 zlt_1_10.2.1 rfl
def zw_170 := z_mt1 zlt_1_10.2.2.1 rfl
def zw_171 := z_mt1 zlt_1_10.2.2.2.1 rfl
def zw_172 := z_mt1 zlt_1_10.2.2.2.2.1 rfl
def zw_173 := z_mt1 zlt_1_10.2.2.2.2.2.1 rfl
def zw_174 := z_mt1 zlt_1_10.2.2.2.2.2.2.1 rfl
def zw_175 := z_mt1 zlt_1_10.2.2.2.2.2.2.2.1 rfl
def zw_176 := z_mt1 zlt_1_10.2.2.2.2.2.2.2.2.1 rfl
def zw_177 := z_mt1 zlt_1_10.2.2.2.2.2.2.2.2.2.1 rfl
def zw_178 := z_mt1 zlt_1_10.2.2.2.2.2.2.2.2.2.2.1 rfl
def zw_179 := z_mt1 zlt_1_10.2.2.2.2.2.2.2.2.2.2.2.1 rfl
def zw_180 := z_mt1 zlt_1_10.2.2.2.2.2.2.2.2.2.2.2.2.1 rfl
def zw_182 := z_mt1 zlt_1_10.2.2.2.2.2.2.2.2.2.2.2.2.2.2.1 rfl
def zw_183 := z_mt1 zlt_1_10.2.2.2.2.2.2.2.2.2.2.2.2.2.2.2 rfl
def zw_184 := z_mt1 zlt_1_11.1 rfl
def zw_204 := z_mt1 zlt_1_12.2.2.2.2.1 rfl
def zw_205 := z_mt1 zlt_1_12.2.2.2.2.2.1 rfl
def zw_206 := z_mt1 zlt_1_12.2.2.2.2.2.2.1 rfl
def zw_207 := z_mt1 zlt_1_12.2.2.2.2.2.2.2.1 rfl
def zw_209 := z_mt1 zlt_1_12.2.2.2.2.2.2.2.2.2.1 rfl
def zw_210 := z_mt1 zlt_1_12.2.2.2.2.2.2.2.2.2.2.1 rfl
def zw_211 := z_mt1 zlt_1_12.2.2.2.2.2.2.2.2.2.2.2.1 rfl
def zw_212 := z_mt1 zlt_1_12.2.2.2.2.2.2.2.2.2.2.2.2.1 rfl
def zw_213 := z_mt1 zlt_1_12.2.2.2.2.2.2.2.2.2.2.2.2.2.1 rfl
def zw_214 := z_mt1 zlt_1_12.2.2.2.2.2.2.2.2.2.2.2.2.2.2.1 rfl
def zw_215 := z_mt1 zlt_1_12.2.2.2.2.2.2.2.2.2.2.2.2.2.2.2 rfl
def zw_216 := z_mt1 zlt_1_13.1 rfl
def zw_217 := z_mt1 zlt_1_13.2.1 rfl
def zw_218 := z_mt1 zlt_1_13.2.2.1 rfl
def zw_219 := z_mt1 zlt_1_13.2.2.2.1 rfl
def zw_220 := z_mt1 zlt_1_13.2.2.2.2.1 rfl
def zw_221 := z_mt1 zlt_1_13.2.2.2.2.2.1 rfl
def zw_222 := z_mt1 zlt_1_13.2.2.2.2.2.2.1 rfl
def zw_223 := z_mt1 zlt_1_13.2.2.2.2.2.2.2.1 rfl
def zw_224 := z_mt1 zlt_1_13.2.2.2.2.2.2.2.2.1 rfl
def zw_225 := z_mt1 zlt_1_13.2.2.2.2.2.2.2.2.2.1 rfl
def zw_226 := z_mt1 zlt_1_13.2.2.2.2.2.2.2.2.2.2.1 rfl
def zw_227 := z_mt1 zlt_1_13.2.2.2.2.2.2.2.2.2.2.2.1 rfl
def zw_243 := z_mt1 zlt_1_14.2.2.2.2.2.2.2.2.2.2.2.1 rfl
def zw_244 := z_mt1 zlt_1_14.2.2.2.2.2.2.2.2.2.2.2.2.1 rfl
def zw_245 := z_mt1 zlt_1_14.2.2.2.2.2.2.2.2.2.2.2.2.2.1 rfl
def zw_246 := z_mt1 zlt_1_14.2.2.2.2.2.2.2.2.2.2.2.2.2.2.1 rfl
def zw_247 := z_mt1 zlt_1_14.2.2.2.2.2.2.2.2.2.2.2.2.2.2.2 rfl
def zw_248 := z_mt2 zlt_2_0.1 rfl
def zw_249 := z_mt2 zlt_2_0.2.1 rfl
def zw_250 := z_mt2 zlt_2_0.2.2.1 rfl
def zw_251 := z_mt2 zlt_2_0.2.2.2.1 rfl
def zw_252 := z_mt2 zlt_2_0.2.2.2.2.1 rfl
def zw_253 := z_mt2 zlt_2_0.2.2.2.2.2.1 rfl
def zw_254 := z_mt2 zlt_2_0.2.2.2.2.2.2.1 rfl
def zw_255 := z_mt2 zlt_2_0.2.2.2.2.2.2.2.1 rfl
def zw_256 := z_mt2 zlt_2_0.2.2.2.2.2.2.2.2.1 rfl
def zw_257 := z_mt2 zlt_2_0.2.2.2.2.2.2.2.2.2.1 rfl
def zw_258 := z_mt2 zlt_2_0.2.2.2.2.2.2.2.2.2.2.1 rfl
def zw_259 := z_mt2 zlt_2_0.2.2.2.2.2.2.2.2.2.2.2.1 rfl
def zw_260 := z_mt2 zlt_2_0.2.2.2.2.2.2.2.2.2.2.2.2.1 rfl
def zw_261 := z_mt2 zlt_2_0.2.2.2.2.2.2.2.2.2.2.2.2.2.1 rfl
def zw_262 := z_mt2 zlt_2_0.2.2.2.2.2.2.2.2.2.2.2.2.2.2.1 rfl
def zw_263 := z_mt2 zlt_2_0.2.2.2.2.2.2.2.2.2.2.2.2.2.2.2 rfl
def zw_264 := z_mt2 zlt_2_1.1 rfl
def zw_265 := z_mt2 zlt_2_1.2.1 rfl
def zw_266 := z_mt2 zlt_2_1.2.2.1 rfl
def zw_267 := z_mt2 zlt_2_1.2.2.2.1 rfl
def zw_268 := z_mt2 zlt_2_1.2.2.2.2.1 rfl
def zw_269 := z_mt2 zlt_2_1.2.2.2.2.2.1 rfl
def zw_270 := z_mt2 zlt_2_1.2.2.2.2.2.2.1 rfl
def zw_271 := z_mt2 zlt_2_1.2.2.2.2.2.2.2.1 rfl
def zw_272 := z_mt2 zlt_2_1.2.2.2.2.2.2.2.2.1 rfl
def zw_273 := z_mt2 zlt_2_1.2.2.2.2.2.2.2.2.2.1 rfl
def zw_274 := z_mt2 zlt_2_1.2.2.2.2.2.2.2.2.2.2.1 rfl
def zw_275 := z_mt2 zlt_2_1.2.2.2.2.2.2.2.2.2.2.2.1 rfl
def zw_276 := z_mt2 zlt_2_1.2.2.2.2.2.2.2.2.2.2.2.2.1 rfl
def zw_277 := z_mt2 zlt_2_1.2.2.2.2.2.2.2.2.2.2.2.2.2.1 rfl
def zw_278 := z_mt2 zlt_2_1.2.2.2.2.2.2.2.2.2.2.2.2.2.2.1 rfl
def zw_279 := z_mt2 zlt_2_1.2.2.2.2.2.2.2.2.2.2.2.2.2.2.2 rfl
def zw_280 := z_mt2 zlt_2_2.1 rfl
def zw_281 := z_mt2 zlt_2_2.2.1 rfl
def zw_282 := z_mt2 zlt_2_2.2.2.1 rfl
def zw_283 := z_mt2 zlt_2_2.2.2.2.1 rfl
def zw_284 := z_mt2 zlt_2_2.2.2.2.2.1 rfl
def zw_285 := z_mt2 zlt_2_2.2.2.2.2.2.1 rfl
def zw_286 := z_mt2 zlt_2_2.2.2.2.2.2.2.1 rfl
def zw_287 := z_mt2 zlt_2_2.2.2.2.2.2.2.2.1 rfl
def zw_288 := z_mt2 zlt_2_2.2.2.2.2.2.2.2.2.1 rfl
def zw_290 := z_mt2 zlt_2_2.2.2.2.2.2.2.2.2.2.2.1 rfl
def zw_291 := z_mt2 zlt_2_2.2.2.2.2.2.2.2.2.2.2.2.1 rfl
def zw_292 := z_mt2 zlt_2_2.2.2.2.2.2.2.2.2.2.2.2.2.1 rfl
def zw_293 := z_mt2 zlt_2_2.2.2.2.2.2.2.2.2.2.2.2.2.2.1 rfl
def zw_294 := z_mt2 zlt_2_2.2.2.2.2.2.2.2.2.2.2.2.2.2.2.1 rfl
def zw_295 := z_mt2 zlt_2_2.2.2.2.2.2.2.2.2.2.2.2.2.2.2.2 rfl
def zw_379 := z_mt2 zlt_2_8.2.2.2.1 rfl
def zw_380 := z_mt2 zlt_2_8.2.2.2.2.1 rfl
def zw_381 := z_mt2 zlt_2_8.2.2.2.2.2.1 rfl
def zw_382 := z_mt2 zlt_2_8.2.2.2.2.2.2.1 rfl
def zw_383 := z_mt2 zlt_2_8.2.2.2.2.2.2.2.1 rfl
def zw_385 := z_mt2 zlt_2_8.2.2.2.2.2.2.2.2.2.1 rfl
def zw_386 := z_mt2 zlt_2_8.2.2.2.2.2.2.2.2.2.2.1 rfl
def zw_387 := z_mt2 zlt_2_8.2.2.2.2.2.2.2.2.2.2.2.1 rfl
def zw_388 := z_mt2 zlt_2_8.2.2.2.2.2.2.2.2.2.2.2.2.1 rfl
def zw_389 := z_mt2 zlt_2_8.2.2.2.2.2.2.2.2.2.2.2.2.2.1 rfl
def zw_390 := z_mt2 zlt_2_8.2.2.2.2.2.2.2.2.2.2.2.2.2.2.1 rfl
def zw_391 := z_mt2 zlt_2_8.2.2.2.2.2.2.2.2.2.2.2.2.2.2.2 rfl
def zw_392 := z_mt2 zlt_2_9.1 rfl
def zw_393 := z_mt2 zlt_2_9.2.1 rfl
def zw_394 := z_mt2 zlt_2_9.2.2.1 rfl
def zw_395 := z_mt2 zlt_2_9.2.2.2.1 rfl
def zw_396 := z_mt2 zlt_2_9.2.2.2.2.1 rfl
def zw_397 := z_mt2 zlt_2_9.2.2.2.2.2.1 rfl
def zw_398 := z_mt2 zlt_2_9.2.2.2.2.2.2.1 rfl
def zw_399 := z_mt2 zlt_2_9.2.2.2.2.2.2.2.1 rfl
def zw_400 := z_mt2 zlt_2_9.2.2.2.2.2.2.2.2.1 rfl
def zw_401 := z_mt2 zlt_2_9.2.2.2.2.2.2.2.2.2.1 rfl
def zw_402 := z_mt2 zlt_2_9.2.2.2.2.2.2.2.2.2.2.1 rfl
def zw_403 := z_mt2 zlt_2_9.2.2.2.2.2.2.2.2.2.2.2.1 rfl
def zw_404 := z_mt2 zlt_2_9.2.2.2.2.2.2.2.2.2.2.2.2.1 rfl
def zw_405 := z_mt2 zlt_2_9.2.2.2.2.2.2.2.2.2.2.2.2.2.1 rfl
def zw_406 := z_mt2 zlt_2_9.2.2.2.2.2.2.2.2.2.2.2.2.2.2.1 rfl
def zw_407 := z_mt2 zlt_2_9.2.2.2.2.2.2.2.2.2.2.2.2.2.2.2 rfl
def zw_408 := z_mt2 zlt_2_10.1 rfl
def zw_409 := z_mt2 zlt_2_10.2.1 rfl
def zw_410 := z_mt2 zlt_2_10.2.2.1 rfl
def zw_411 := z_mt2 zlt_2_10.2.2.2.1 rfl
def zw_413 := z_mt2 zlt_2_10.2.2.2.2.2.1 rfl
def zw_414 := z_mt2 zlt_2_10.2.2.2.2.2.2.1 rfl
def zw_416 := z_mt2 zlt_2_10.2.2.2.2.2.2.2.2.1 rfl
def zw_417 := z_mt2 zlt_2_10.2.2.2.2.2.2.2.2.2.1 rfl
def zw_418 := z_mt2 zlt_2_10.2.2.2.2.2.2.2.2.2.2.1 rfl
def zw_419 := z_mt2 zlt_2_10.2.2.2.2.2.2.2.2.2.2.2.1 rfl
def zw_420 := z_mt2 zlt_2_10.2.2.2.2.2.2.2.2.2.2.2.2.1 rfl
def zw_421 := z_mt2 zlt_2_10.2.2.2.2.2.2.2.2.2.2.2.2.2.1 rfl
def zw_422 := z_mt2 zlt_2_10.2.2.2.2.2.2.2.2.2.2.2.2.2.2.1 rfl
def zw_423 := z_mt2 zlt_2_10.2.2.2.2.2.2.2.2.2.2.2.2.2.2.2 rfl
def zw_424 := z_mt2 zlt_2_11.1 rfl
def zw_425 := z_mt2 zlt_2_11.2.1 rfl
def zw_426 := z_mt2 zlt_2_11.2.2.1 rfl
def zw_427 := z_mt2 zlt_2_11.2.2.2.1 rfl
def zw_428 := z_mt2 zlt_2_11.2.2.2.2.1 rfl
def zw_429 := z_mt2 zlt_2_11.2.2.2.2.2.1 rfl
def zw_430 := z_mt2 zlt_2_11.2.2.2.2.2.2.1 rfl
def zw_431 := z_mt2 zlt_2_11.2.2.2.2.2.2.2.1 rfl
def zw_432 := z_mt2 zlt_2_11.2.2.2.2.2.2.2.2.1 rfl
def zw_434 := z_mt2 zlt_2_11.2.2.2.2.2.2.2.2.2.2.1 rfl
def zw_435 := z_mt2 zlt_2_11.2.2.2.2.2.2.2.2.2.2.2.1 rfl
def zw_436 := z_mt2 zlt_2_11.2.2.2.2.2.2.2.2.2.2.2.2.1 rfl
def zw_437 := z_mt2 zlt_2_11.2.2.2.2.2.2.2.2.2.2.2.2.2.1 rfl
def zw_438 := z_mt2 zlt_2_11.2.2.2.2.2.2.2.2.2.2.2.2.2.2.1 rfl
def zw_439 := z_mt2 zlt_2_11.2.2.2.2.2.2.2.2.2.2.2.2.2.2.2 rfl
def zw_440 := z_mt2 zlt_2_12.1 rfl
def zw_441 := z_mt2 zlt_2_12.2.1 rfl
def zw_442 := z_mt2 zlt_2_12.2.2.1 rfl
def zw_443 := z_mt2 zlt_2_12.2.2.2.1 rfl
def zw_444 := z_mt2 zlt_2_12.2.2.2.2.1 rfl
def zw_446 := z_mt2 zlt_2_12.2.2.2.2.2.2.1 rfl
def zw_447 := z_mt2 zlt_2_12.2.2.2.2.2.2.2.1 rfl
def zw_448 := z_mt2 zlt_2_12.2.2.2.2.2.2.2.2.1 rfl
def zw_449 := z_mt2 zlt_2_12.2.2.2.2.2.2.2.2.2.1 rfl
def zw_450 := z_mt2 zlt_2_12.2.2.2.2.2.2.2.2.2.2.1 rfl
def zw_452 := z_mt2 zlt_2_12.2.2.2.2.2.2.2.2.2.2.2.2.1 rfl
def zw_453 := z_mt2 zlt_2_12.2.2.2.2.2.2.2.2.2.2.2.2.2.1 rfl
def zw_454 := z_mt2 zlt_2_12.2.2.2.2.2.2.2.2.2.2.2.2.2.2.1 rfl
def zw_455 := z_mt2 zlt_2_12.2.2.2.2.2.2.2.2.2.2.2.2.2.2.2 rfl
def zw_456 := z_mt2 zlt_2_13.1 rfl
def zw_457 := z_mt2 zlt_2_13.2.1 rfl
def zw_458 := z_mt2 zlt_2_13.2.2.1 rfl
def zw_459 := z_mt2 zlt_2_13.2.2.2.1 rfl
def zw_460 := z_mt2 zlt_2_13.2.2.2.2.1 rfl
def zw_461 := z_mt2 zlt_2_13.2.2.2.2.2.1 rfl
def zw_462 := z_mt2 zlt_2_13.2.2.2.2.2.2.1 rfl
def zw_463 := z_mt2 zlt_2_13.2.2.2.2.2.2.2.1 rfl
def zw_464 := z_mt2 zlt_2_13.2.2.2.2.2.2.2.2.1 rfl
def zw_465 := z_mt2 zlt_2_13.2.2.2.2.2.2.2.2.2.1 rfl
def zw_466 := z_mt2 zlt_2_13.2.2.2.2.2.2.2.2.2.2.1 rfl
def zw_467 := z_mt2 zlt_2_13.2.2.2.2.2.2.2.2.2.2.2.1 rfl
def zw_468 := z_mt2 zlt_2_13.2.2.2.2.2.2.2.2.2.2.2.2.1 rfl
def zw_469 := z_mt2 zlt_2_13.2.2.2.2.2.2.2.2.2.2.2.2.2.1 rfl
def zw_470 := z_mt2 zlt_2_13.2.2.2.2.2.2.2.2.2.2.2.2.2.2.1 rfl
def zw_471 := z_mt2 zlt_2_13.2.2.2.2.2.2.2.2.2.2.2.2.2.2.2 rfl
def zw_472 := z_mt2 zlt_2_14.1 rfl
def zw_473 := z_mt2 zlt_2_14.2.1 rfl
def zw_475 := z_mt2 zlt_2_14.2.2.2.1 rfl
def zw_476 := z_mt2 zlt_2_14.2.2.2.2.1 rfl
def zw_477 := z_mt2 zlt_2_14.2.2.2.2.2.1 rfl
def zw_478 := z_mt2 zlt_2_14.2.2.2.2.2.2.1 rfl
def zw_479 := z_mt2 zlt_2_14.2.2.2.2.2.2.2.1 rfl
def zw_480 := z_mt2 zlt_2_14.2.2.2.2.2.2.2.2.1 rfl
def zw_481 := z_mt2 zlt_2_14.2.2.2.2.2.2.2.2.2.1 rfl
def zw_482 := z_mt2 zlt_2_14.2.2.2.2.2.2.2.2.2.2.1 rfl
def zw_483 := z_mt2 zlt_2_14.2.2.2.2.2.2.2.2.2.2.2.1 rfl
def zw_484 := z_mt2 zlt_2_14.2.2.2.2.2.2.2.2.2.2.2.2.1 rfl
def zw_486 := z_mt2 zlt_2_14.2.2.2.2.2.2.2.2.2.2.2.2.2.2.1 rfl
def zw_487 := z_mt2 zlt_2_14.2.2.2.2.2.2.2.2.2.2.2.2.2.2.2 rfl
def zw_488 := z_mt3 zlt_3_0.1 rfl
def zw_489 := z_mt3 zlt_3_0.2.1 rfl
def zw_490 := z_mt3 zlt_3_0.2.2.1 rfl
def zw_491 := z_mt3 zlt_3_0.2.2.2.1 rfl
def zw_492 := z_mt3 zlt_3_0.2.2.2.2.1 rfl
def zw_493 := z_mt3 zlt_3_0.2.2.2.2.2.1 rfl
def zw_494 := z_mt3 zlt_3_0.2.2.2.2.2.2.1 rfl
def zw_495 := z_mt3 zlt_3_0.2.2.2.2.2.2.2.1 rfl
def zw_496 := z_mt3 zlt_3_0.2.2.2.2.2.2.2.2.1 rfl
def zw_497 := z_mt3 zlt_3_0.2.2.2.2.2.2.2.2.2.1 rfl
def zw_498 := z_mt3 zlt_3_0.2.2.2.2.2.2.2.2.2.2.1 rfl
def zw_499 := z_mt3 zlt_3_0.2.2.2.2.2.2.2.2.2.2.2.1 rfl
def zw_500 := z_mt3 zlt_3_0.2.2.2.2.2.2.2.2.2.2.2.2.1 rfl
def zw_501 := z_mt3 zlt_3_0.2.2.2.2.2.2.2.2.2.2.2.2.2.1 rfl
def zw_502 := z_mt3 zlt_3_0.2.2.2.2.2.2.2.2.2.2.2.2.2.2.1 rfl
def zw_503 := z_mt3 zlt_3_0.2.2.2.2.2.2.2.2.2.2.2.2.2.2.2 rfl
def zw_504 := z_mt3 zlt_3_1.1 rfl
def zw_506 := z_mt3 zlt_3_1.2.2.1 rfl
def zw_507 := z_mt3 zlt_3_1.2.2.2.1 rfl
def zw_508 := z_mt3 zlt_3_1.2.2.2.2.1 rfl
def zw_509 := z_mt3 zlt_3_1.2.2.2.2.2.1 rfl
def zw_510 := z_mt3 zlt_3_1.2.2.2.2.2.2.1 rfl
def zw_511 := z_mt3 zlt_3_1.2.2.2.2.2.2.2.1 rfl
def zw_528 := z_mt3 zlt_3_2.2.2.2.2.2.2.2.2.1 rfl
def zw_529 := z_mt3 zlt_3_2.2.2.2.2.2.2.2.2.2.1 rfl
def zw_530 := z_mt3 zlt_3_2.2.2.2.2.2.2.2.2.2.2.1 rfl
def zw_531 := z_mt3 zlt_3_2.2.2.2.2.2.2.2.2.2.2.2.1 rfl
def zw_532 := z_mt3 zlt_3_2.2.2.2.2.2.2.2.2.2.2.2.2.1 rfl
def zw_533 := z_mt3 zlt_3_2.2.2.2.2.2.2.2.2.2.2.2.2.2.1 rfl
def zw_534 := z_mt3 zlt_3_2.2.2.2.2.2.2.2.2.2.2.2.2.2.2.1 rfl
def zw_535 := z_mt3 zlt_3_2.2.2.2.2.2.2.2.2.2.2.2.2.2.2.2 rfl
def zw_536 := z_mt3 zlt_3_3.1 rfl
def zw_538 := z_mt3 zlt_3_3.2.2.1 rfl
def zw_539 := z_mt3 zlt_3_3.2.2.2.1 rfl
def zw_540 := z_mt3 zlt_3_3.2.2.2.2.1 rfl
def zw_541 := z_mt3 zlt_3_3.2.2.2.2.2.1 rfl
def zw_543 := z_mt3 zlt_3_3.2.2.2.2.2.2.2.1 rfl
def zw_544 := z_mt3 zlt_3_3.2.2.2.2.2.2.2.2.1 rfl
def zw_545 := z_mt3 zlt_3_3.2.2.2.2.2.2.2.2.2.1 rfl
def zw_546 := z_mt3 zlt_3_3.2.2.2.2.2.2.2.2.2.2.1 rfl
def zw_547 := z_mt3 zlt_3_3.2.2.2.2.2.2.2.2.2.2.2.1 rfl
def zw_549 := z_mt3 zlt_3_3.2.2.2.2.2.2.2.2.2.2.2.2.2.1 rfl
def zw_550 := z_mt3 zlt_3_3.2.2.2.2.2.2.2.2.2.2.2.2.2.2.1 rfl
def zw_551 := z_mt3 zlt_3_3.2.2.2.2.2.2.2.2.2.2.2.2.2.2.2 rfl
def zw_552 := z_mt3 zlt_3_4.1 rfl
def zw_553 := z_mt3 zlt_3_4.2.1 rfl
def zw_554 := z_mt3 zlt_3_4.2.2.1 rfl
def zw_555 := z_mt3 zlt_3_4.2.2.2.1 rfl
def zw_556 := z_mt3 zlt_3_4.2.2.2.2.1 rfl
def zw_557 := z_mt3 zlt_3_4.2.2.2.2.2.1 rfl
def zw_558 := z_mt3 zlt_3_4.2.2.2.2.2.2.1 rfl
def zw_559 := z_mt3 zlt_3_4.2.2.2.2.2.2.2.1 rfl
def zw_560 := z_mt3 zlt_3_4.2.2.2.2.2.2.2.2.1 rfl
def zw_561 := z_mt3 zlt_3_4.2.2.2.2.2.2.2.2.2.1 rfl
def zw_562 := z_mt3 zlt_3_4.2.2.2.2.2.2.2.2.2.2.1 rfl
def zw_563 := z_mt3 zlt_3_4.2.2.2.2.2.2.2.2.2.2.2.1 rfl
def zw_564 := z_mt3 zlt_3_4.2.2.2.2.2.2.2.2.2.2.2.2.1 rfl
def zw_565 := z_mt3 zlt_3_4.2.2.2.2.2.2.2.2.2.2.2.2.2.1 rfl
def zw_566 := z_mt3 zlt_3_4.2.2.2.2.2.2.2.2.2.2.2.2.2.2.1 rfl
def zw_567 := z_mt3 zlt_3_4.2.2.2.2.2.2.2.2.2.2.2.2.2.2.2 rfl
def zw_569 := z_mt3 zlt_3_5.2.1 rfl
def zw_570 := z_mt3 zlt_3_5.2.2.1 rfl
def zw_571 := z_mt3 zlt_3_5.2.2.2.1 rfl
def zw_572 := z_mt3 zlt_3_5.2.2.2.2.1 rfl
def zw_573 := z_mt3 zlt_3_5.2.2.2.2.2.1 rfl
def zw_574 := z_mt3 zlt_3_5.2.2.2.2.2.2.1 rfl
def zw_575 := z_mt3 zlt_3_5.2.2.2.2.2.2.2.1 rfl
def zw_576 := z_mt3 zlt_3_5.2.2.2.2.2.2.2.2.1 rfl
def zw_577 := z_mt3 zlt_3_5.2.2.2.2.2.2.2.2.2.1 rfl
def zw_578 := z_mt3 zlt_3_5.2.2.2.2.2.2.2.2.2.2.1 rfl
def zw_579 := z_mt3 zlt_3_5.2.2.2.2.2.2.2.2.2.2.2.1 rfl
def zw_580 := z_mt3 zlt_3_5.2.2.2.2.2.2.2.2.2.2.2.2.1 rfl
def zw_581 := z_mt3 zlt_3_5.2.2.2.2.2.2.2.2.2.2.2.2.2.1 rfl
def zw_582 := z_mt3 zlt_3_5.2.2.2.2.2.2.2.2.2.2.2.2.2.2.1 rfl
def zw_584 := z_mt3 zlt_3_6.1 rfl
def zw_585 := z_mt3 zlt_3_6.2.1 rfl
def zw_587 := z_mt3 zlt_3_6.2.2.2.1 rfl
def zw_588 := z_mt3 zlt_3_6.2.2.2.2.1 rfl
def zw_589 := z_mt3 zlt_3_6.2.2.2.2.2.1 rfl
def zw_590 := z_mt3 zlt_3_6.2.2.2.2.2.2.1 rfl
def zw_591 := z_mt3 zlt_3_6.2.2.2.2.2.2.2.1 rfl
def zw_592 := z_mt3 zlt_3_6.2.2.2.2.2.2.2.2.1 rfl
def zw_593 := z_mt3 zlt_3_6.2.2.2.2.2.2.2.2.2.1 rfl
def zw_594 := z_mt3 zlt_3_6.2.2.2.2.2.2.2.2.2.2.1 rfl
def zw_595 := z_mt3 zlt_3_6.2.2.2.2.2.2.2.2.2.2.2.1 rfl
def zw_597 := z_mt3 zlt_3_6.2.2.2.2.2.2.2.2.2.2.2.2.2.1 rfl
def zw_598 := z_mt3 zlt_3_6.2.2.2.2.2.2.2.2.2.2.2.2.2.2.1 rfl
def zw_599 := z_mt3 zlt_3_6.2.2.2.2.2.2.2.2.2.2.2.2.2.2.2 rfl
def zw_600 := z_mt3 zlt_3_7.1 rfl
def zw_601 := z_mt3 zlt_3_7.2.1 rfl
def zw_602 := z_mt3 zlt_3_7.2.2.1 rfl
def zw_603 := z_mt3 zlt_3_7.2.2.2.1 rfl
def zw_604 := z_mt3 zlt_3_7.2.2.2.2.1 rfl
def zw_606 := z_mt3 zlt_3_7.2.2.2.2.2.2.1 rfl
def zw_607 := z_mt3 zlt_3_7.2.2.2.2.2.2.2.1 rfl
def zw_608 := z_mt3 zlt_3_7.2.2.2.2.2.2.2.2.1 rfl
def zw_609 := z_mt3 zlt_3_7.2.2.2.2.2.2.2.2.2.1 rfl
def zw_610 := z_mt3 zlt_3_7.2.2.2.2.2.2.2.2.2.2.1 rfl
def zw_611 := z_mt3 zlt_3_7.2.2.2.2.2.2.2.2.2.2.2.1 rfl
def zw_612 := z_mt3 zlt_3_7.2.2.2.2.2.2.2.2.2.2.2.2.1 rfl
def zw_613 := z_mt3 zlt_3_7.2.2.2.2.2.2.2.2.2.2.2.2.2.1 rfl
def zw_614 := z_mt3 zlt_3_7.2.2.2.2.2.2.2.2.2.2.2.2.2.2.1 rfl
def zw_615 := z_mt3 zlt_3_7.2.2.2.2.2.2.2.2.2.2.2.2.2.2.2 rfl
def zw_616 := z_mt3 zlt_3_8.1 rfl
def zw_617 := z_mt3 zlt_3_8.2.1 rfl
def zw_618 := z_mt3 zlt_3_8.2.2.1 rfl
def zw_619 := z_mt3 zlt_3_8.2.2.2.1 rfl
def zw_620 := z_mt3 zlt_3_8.2.2.2.2.1 rfl
def zw_621 := z_mt3 zlt_3_8.2.2.2.2.2.1 rfl
def zw_622 := z_mt3 zlt_3_8.2.2.2.2.2.2.1 rfl
def zw_623 := z_mt3 zlt_3_8.2.2.2.2.2.2.2.1 rfl
def zw_624 := z_mt3 zlt_3_8.2.2.2.2.2.2.2.2.1 rfl
def zw_625 := z_mt3 zlt_3_8.2.2.2.2.2.2.2.2.2.1 rfl
def zw_626 := z_mt3 zlt_3_8.2.2.2.2.2.2.2.2.2.2.1 rfl
def zw_627 := z_mt3 zlt_3_8.2.2.2.2.2.2.2.2.2.2.2.1 rfl
def zw_628 := z_mt3 zlt_3_8.2.2.2.2.2.2.2.2.2.2.2.2.1 rfl
def zw_629 := z_mt3 zlt_3_8.2.2.2.2.2.2.2.2.2.2.2.2.2.1 rfl
def zw_630 := z_mt3 zlt_3_8.2.2.2.2.2.2.2.2.2.2.2.2.2.2.1 rfl
def zw_631 := z_mt3 zlt_3_8.2.2.2.2.2.2.2.2.2.2.2.2.2.2.2 rfl
def zw_632 := z_mt3 zlt_3_9.1 rfl
def zw_633 := z_mt3 zlt_3_9.2.1 rfl
def zw_634 := z_mt3 zlt_3_9.2.2.1 rfl
def zw_635 := z_mt3 zlt_3_9.2.2.2.1 rfl
def zw_636 := z_mt3 zlt_3_9.2.2.2.2.1 rfl
def zw_637 := z_mt3 zlt_3_9.2.2.2.2.2.1 rfl
def zw_638 := z_mt3 zlt_3_9.2.2.2.2.2.2.1 rfl
def zw_639 := z_mt3 zlt_3_9.2.2.2.2.2.2.2.1 rfl
def zw_640 := z_mt3 zlt_3_9.2.2.2.2.2.2.2.2.1 rfl
def zw_641 := z_mt3 zlt_3_9.2.2.2.2.2.2.2.2.2.1 rfl
def zw_642 := z_mt3 zlt_3_9.2.2.2.2.2.2.2.2.2.2.1 rfl
def zw_643 := z_mt3 zlt_3_9.2.2.2.2.2.2.2.2.2.2.2.1 rfl
def zw_644 := z_mt3 zlt_3_9.2.2.2.2.2.2.2.2.2.2.2.2.1 rfl
def zw_645 := z_mt3 zlt_3_9.2.2.2.2.2.2.2.2.2.2.2.2.2.1 rfl
def zw_646 := z_mt3 zlt_3_9.2.2.2.2.2.2.2.2.2.2.2.2.2.2.1 rfl
def zw_647 := z_mt3 zlt_3_9.2.2.2.2.2.2.2.2.2.2.2.2.2.2.2 rfl
def zw_648 := z_mt3 zlt_3_10.1 rfl
def zw_649 := z_mt3 zlt_3_10.2.1 rfl
def zw_650 := z_mt3 zlt_3_10.2.2.1 rfl
def zw_651 := z_mt3 zlt_3_10.2.2.2.1 rfl
def zw_652 := z_mt3 zlt_3_10.2.2.2.2.1 rfl
def zw_653 := z_mt3 zlt_3_10.2.2.2.2.2.1 rfl
def zw_654 := z_mt3 zlt_3_10.2.2.2.2.2.2.1 rfl
def zw_655 := z_mt3 zlt_3_10.2.2.2.2.2.2.2.1 rfl
def zw_656 := z_mt3 zlt_3_10.2.2.2.2.2.2.2.2.1 rfl
def zw_657 := z_mt3 zlt_3_10.2.2.2.2.2.2.2.2.2.1 rfl
def zw_658 := z_mt3 zlt_3_10.2.2.2.2.2.2.2.2.2.2.1 rfl
def zw_659 := z_mt3 zlt_3_10.2.2.2.2.2.2.2.2.2.2.2.1 rfl
def zw_660 := z_mt3 zlt_3_10.2.2.2.2.2.2.2.2.2.2.2.2.1 rfl
def zw_661 := z_mt3 zlt_3_10.2.2.2.2.2.2.2.2.2.2.2.2.2.1 rfl
def zw_662 := z_mt3 zlt_3_10.2.2.2.2.2.2.2.2.2.2.2.2.2.2.1 rfl
def zw_663 := z_mt3 zlt_3_10.2.2.2.2.2.2.2.2.2.2.2.2.2.2.2 rfl
def zw_664 := z_mt3 zlt_3_11.1 rfl
def zw_665 := z_mt3 zlt_3_11.2.1 rfl
def zw_666 := z_mt3 zlt_3_11.2.2.1 rfl
def zw_667 := z_mt3 zlt_3_11.2.2.2.1 rfl
def zw_668 := z_mt3 zlt_3_11.2.2.2.2.1 rfl
def zw_670 := z_mt3 zlt_3_11.2.2.2.2.2.2.1 rfl
def zw_671 := z_mt3 zlt_3_11.2.2.2.2.2.2.2 rfl
