section
/-! THE CHECK of the tables: lemmas. -/
def z_oke' (T : zT) (P : zP) (M : zM) (nm : MethodName) (cc : ByteArray) (q : zE) : Prop := match q with
  | (pc, i, len, a, b) => decode cc pc = .ok (i, len) ∧ (match z_kind i a b with
    | 0 => z_len i len ∧ z_tgt i pc a
    | 1 => z_okh M.2.2.2.2.2.1 M.2.2.2.2.2.2.1 M.2.2.2.2.2.2.2 M.2.2.2.2.1 T nm.cls nm.name M.2.2.2.1 i len pc a b
    | 2 => len = 3 ∧ z_okv P M nm.cls i a b
    | 7 => len = 3 ∧ z_okn P M nm.cls i a b
    | 3 => len = 3 ∧ z_oks P M nm.cls i a b
    | 4 => len = 1
    | 5 => i = .return_ ∧ len = 1
    | _ => z_okt T M nm.cls cc i pc a)
theorem z_okm_of {T : zT} {P : zP} {M : zM} {y : Nat} (nm : MethodName) (cc : ByteArray) (l : List zE) (hx : List zX) (hn : M.1 y = nm) (hc : M.2.1 y = cc) (hl : P.1 y = l) (hh : P.2.2.1 y = hx) (h1 : ∀ q ∈ l, z_oke' T P M nm cc q) (h2 : ∀ x ∈ hx, z_okx P M y x) : z_okm T P M y := by
  subst hn; subst hc; subst hl; subst hh
  exact ⟨h1, h2⟩
theorem z_fc {α : Type} {Q : α → Prop} {a : α} {l : List α} (h : Q a) (t : ∀ q ∈ l, Q q) : ∀ q ∈ a :: l, Q q := List.forall_mem_cons.mpr ⟨h, t⟩
theorem z_fn {α : Type} {Q : α → Prop} : ∀ q ∈ ([] : List α), Q q := fun _ h => absurd h List.not_mem_nil
theorem z_mem (i : Nat) {w : Cond} (h : lw_tbl[i]? = some w) (hg : goodWord w = true) : w ∈ za_Ts := List.mem_filter.mpr ⟨List.mem_of_getElem? h, hg⟩
section ZO
variable {T : zT} {P : zP} {M : zM} {nm : MethodName} {cc : ByteArray} {pc len a b : Nat} {i : Instr}
theorem zo_l (hd : decode cc pc = .ok (i, len)) (hk : z_kind i a b = 0) (hn : z_len i len) (ht : z_tgt i pc a) : z_oke' T P M nm cc (pc, i, len, a, b) := by
  unfold z_oke'
  dsimp only
  rw [hk]
  exact ⟨hd, hn, ht⟩
theorem zo_h (hd : decode cc pc = .ok (i, len)) (hk : z_kind i a b = 1) (h : z_okh M.2.2.2.2.2.1 M.2.2.2.2.2.2.1 M.2.2.2.2.2.2.2 M.2.2.2.2.1 T nm.cls nm.name M.2.2.2.1 i len pc a b) : z_oke' T P M nm cc (pc, i, len, a, b) := by
  unfold z_oke'
  dsimp only
  rw [hk]
  exact ⟨hd, h⟩
theorem zo_v (hd : decode cc pc = .ok (i, 3)) (hk : z_kind i a b = 2) (h : z_okv P M nm.cls i a b) : z_oke' T P M nm cc (pc, i, 3, a, b) := by
  unfold z_oke'
  dsimp only
  rw [hk]
  exact ⟨hd, rfl, h⟩
theorem zo_n (hd : decode cc pc = .ok (i, 3)) (hk : z_kind i a b = 7) (h : z_okn P M nm.cls i a b) : z_oke' T P M nm cc (pc, i, 3, a, b) := by
  unfold z_oke'
  dsimp only
  rw [hk]
  exact ⟨hd, rfl, h⟩
theorem zo_s (hd : decode cc pc = .ok (i, 3)) (hk : z_kind i a b = 3) (h : z_oks P M nm.cls i a b) : z_oke' T P M nm cc (pc, i, 3, a, b) := by
  unfold z_oke'
  dsimp only
  rw [hk]
  exact ⟨hd, rfl, h⟩
theorem zo_r (hd : decode cc pc = .ok (i, 1)) (hk : z_kind i a b = 4) : z_oke' T P M nm cc (pc, i, 1, a, b) := by
  unfold z_oke'
  dsimp only
  rw [hk]
  exact ⟨hd, rfl⟩
theorem zo_e (hd : decode cc pc = .ok (.return_, 1)) : z_oke' T P M nm cc (pc, .return_, 1, a, b) := ⟨hd, rfl, rfl⟩
theorem zo_t (hd : decode cc pc = .ok (i, len)) (hk : z_kind i a b = 6) (h : z_okt T M nm.cls cc i pc a) : z_oke' T P M nm cc (pc, i, len, a, b) := by
  unfold z_oke'
  dsimp only
  rw [hk]
  exact ⟨hd, h⟩
end ZO
theorem z_and {x y : Bool} (h : (x && y) = true) : x = true ∧ y = true := by
  cases x <;> cases y <;> first | exact ⟨rfl, rfl⟩ | cases h
/-! The tables' words, each by its place: chunks of 16. -/
theorem zu_1 {T : List Cond} {a0 : Cond} (h : ∀ w ∈ [a0], w ∈ T) : a0 ∈ T := h a0 (List.Mem.head _)
theorem zu_2 {T : List Cond} {a0 a1 : Cond} (h : ∀ w ∈ [a0, a1], w ∈ T) : a0 ∈ T ∧ a1 ∈ T := ⟨h a0 (List.Mem.head _), h a1 (List.Mem.tail _ (List.Mem.head _))⟩
theorem zu_3 {T : List Cond} {a0 a1 a2 : Cond} (h : ∀ w ∈ [a0, a1, a2], w ∈ T) : a0 ∈ T ∧ a1 ∈ T ∧ a2 ∈ T := ⟨h a0 (List.Mem.head _), h a1 (List.Mem.tail _ (List.Mem.head _)), h a2 (List.Mem.tail _ (List.Mem.tail _ (List.Mem.head _)))⟩
theorem zu_4 {T : List Cond} {a0 a1 a2 a3 : Cond} (h : ∀ w ∈ [a0, a1, a2, a3], w ∈ T) : a0 ∈ T ∧ a1 ∈ T ∧ a2 ∈ T ∧ a3 ∈ T := ⟨h a0 (List.Mem.head _), h a1 (List.Mem.tail _ (List.Mem.head _)), h a2 (List.Mem.tail _ (List.Mem.tail _ (List.Mem.head _))), h a3 (List.Mem.tail _ (List.Mem.tail _ (List.Mem.tail _ (List.Mem.head _))))⟩
theorem zu_5 {T : List Cond} {a0 a1 a2 a3 a4 : Cond} (h : ∀ w ∈ [a0, a1, a2, a3, a4], w ∈ T) : a0 ∈ T ∧ a1 ∈ T ∧ a2 ∈ T ∧ a3 ∈ T ∧ a4 ∈ T := ⟨h a0 (List.Mem.head _), h a1 (List.Mem.tail _ (List.Mem.head _)), h a2 (List.Mem.tail _ (List.Mem.tail _ (List.Mem.head _))), h a3 (List.Mem.tail _ (List.Mem.tail _ (List.Mem.tail _ (List.Mem.head _)))), h a4 (List.Mem.tail _ (List.Mem.tail _ (List.Mem.tail _ (List.Mem.tail _ (List.Mem.head _)))))⟩
theorem zu_6 {T : List Cond} {a0 a1 a2 a3 a4 a5 : Cond} (h : ∀ w ∈ [a0, a1, a2, a3, a4, a5], w ∈ T) : a0 ∈ T ∧ a1 ∈ T ∧ a2 ∈ T ∧ a3 ∈ T ∧ a4 ∈ T ∧ a5 ∈ T := ⟨h a0 (List.Mem.head _), h a1 (List.Mem.tail _ (List.Mem.head _)), h a2 (List.Mem.tail _ (List.Mem.tail _ (List.Mem.head _))), h a3 (List.Mem.tail _ (List.Mem.tail _ (List.Mem.tail _ (List.Mem.head _)))), h a4 (List.Mem.tail _ (List.Mem.tail _ (List.Mem.tail _ (List.Mem.tail _ (List.Mem.head _))))), h a5 (List.Mem.tail _ (List.Mem.tail _ (List.Mem.tail _ (List.Mem.tail _ (List.Mem.tail _ (List.Mem.head _))))))⟩
theorem zu_7 {T : List Cond} {a0 a1 a2 a3 a4 a5 a6 : Cond} (h : ∀ w ∈ [a0, a1, a2, a3, a4, a5, a6], w ∈ T) : a0 ∈ T ∧ a1 ∈ T ∧ a2 ∈ T ∧ a3 ∈ T ∧ a4 ∈ T ∧ a5 ∈ T ∧ a6 ∈ T := ⟨h a0 (List.Mem.head _), h a1 (List.Mem.tail _ (List.Mem.head _)), h a2 (List.Mem.tail _ (List.Mem.tail _ (List.Mem.head _))), h a3 (List.Mem.tail _ (List.Mem.tail _ (List.Mem.tail _ (List.Mem.head _)))), h a4 (List.Mem.tail _ (List.Mem.tail _ (List.Mem.tail _ (List.Mem.tail _ (List.Mem.head _))))), h a5 (List.Mem.tail _ (List.Mem.tail _ (List.Mem.tail _ (List.Mem.tail _ (List.Mem.tail _ (List.Mem.head _)))))), h a6 (List.Mem.tail _ (List.Mem.tail _ (List.Mem.tail _ (List.Mem.tail _ (List.Mem.tail _ (List.Mem.tail _ (List.Mem.head _)))))))⟩
theorem zu_8 {T : List Cond} {a0 a1 a2 a3 a4 a5 a6 a7 : Cond} (h : ∀ w ∈ [a0, a1, a2, a3, a4, a5, a6, a7], w ∈ T) : a0 ∈ T ∧ a1 ∈ T ∧ a2 ∈ T ∧ a3 ∈ T ∧ a4 ∈ T ∧ a5 ∈ T ∧ a6 ∈ T ∧ a7 ∈ T := ⟨h a0 (List.Mem.head _), h a1 (List.Mem.tail _ (List.Mem.head _)), h a2 (List.Mem.tail _ (List.Mem.tail _ (List.Mem.head _))), h a3 (List.Mem.tail _ (List.Mem.tail _ (List.Mem.tail _ (List.Mem.head _)))), h a4 (List.Mem.tail _ (List.Mem.tail _ (List.Mem.tail _ (List.Mem.tail _ (List.Mem.head _))))), h a5 (List.Mem.tail _ (List.Mem.tail _ (List.Mem.tail _ (List.Mem.tail _ (List.Mem.tail _ (List.Mem.head _)))))), h a6 (List.Mem.tail _ (List.Mem.tail _ (List.Mem.tail _ (List.Mem.tail _ (List.Mem.tail _ (List.Mem.tail _ (List.Mem.head _))))))), h a7 (List.Mem.tail _ (List.Mem.tail _ (List.Mem.tail _ (List.Mem.tail _ (List.Mem.tail _ (List.Mem.tail _ (List.Mem.tail _ (List.Mem.head _))))))))⟩
theorem zu_9 {T : List Cond} {a0 a1 a2 a3 a4 a5 a6 a7 a8 : Cond} (h : ∀ w ∈ [a0, a1, a2, a3, a4, a5, a6, a7, a8], w ∈ T) : a0 ∈ T ∧ a1 ∈ T ∧ a2 ∈ T ∧ a3 ∈ T ∧ a4 ∈ T ∧ a5 ∈ T ∧ a6 ∈ T ∧ a7 ∈ T ∧ a8 ∈ T := ⟨h a0 (List.Mem.head _), h a1 (List.Mem.tail _ (List.Mem.head _)), h a2 (List.Mem.tail _ (List.Mem.tail _ (List.Mem.head _))), h a3 (List.Mem.tail _ (List.Mem.tail _ (List.Mem.tail _ (List.Mem.head _)))), h a4 (List.Mem.tail _ (List.Mem.tail _ (List.Mem.tail _ (List.Mem.tail _ (List.Mem.head _))))), h a5 (List.Mem.tail _ (List.Mem.tail _ (List.Mem.tail _ (List.Mem.tail _ (List.Mem.tail _ (List.Mem.head _)))))), h a6 (List.Mem.tail _ (List.Mem.tail _ (List.Mem.tail _ (List.Mem.tail _ (List.Mem.tail _ (List.Mem.tail _ (List.Mem.head _))))))), h a7 (List.Mem.tail _ (List.Mem.tail _ (List.Mem.tail _ (List.Mem.tail _ (List.Mem.tail _ (List.Mem.tail _ (List.Mem.tail _ (List.Mem.head _)))))))), h a8 (List.Mem.tail _ (List.Mem.tail _ (List.Mem.tail _ (List.Mem.tail _ (List.Mem.tail _ (List.Mem.tail _ (List.Mem.tail _ (List.Mem.tail _ (List.Mem.head _)))))))))⟩
theorem zu_10 {T : List Cond} {a0 a1 a2 a3 a4 a5 a6 a7 a8 a9 : Cond} (h : ∀ w ∈ [a0, a1, a2, a3, a4, a5, a6, a7, a8, a9], w ∈ T) : a0 ∈ T ∧ a1 ∈ T ∧ a2 ∈ T ∧ a3 ∈ T ∧ a4 ∈ T ∧ a5 ∈ T ∧ a6 ∈ T ∧ a7 ∈ T ∧ a8 ∈ T ∧ a9 ∈ T := ⟨h a0 (List.Mem.head _), h a1 (List.Mem.tail _ (List.Mem.head _)), h a2 (List.Mem.tail _ (List.Mem.tail _ (List.Mem.head _))), h a3 (List.Mem.tail _ (List.Mem.tail _ (List.Mem.tail _ (List.Mem.head _)))), h a4 (List.Mem.tail _ (List.Mem.tail _ (List.Mem.tail _ (List.Mem.tail _ (List.Mem.head _))))), h a5 (List.Mem.tail _ (List.Mem.tail _ (List.Mem.tail _ (List.Mem.tail _ (List.Mem.tail _ (List.Mem.head _)))))), h a6 (List.Mem.tail _ (List.Mem.tail _ (List.Mem.tail _ (List.Mem.tail _ (List.Mem.tail _ (List.Mem.tail _ (List.Mem.head _))))))), h a7 (List.Mem.tail _ (List.Mem.tail _ (List.Mem.tail _ (List.Mem.tail _ (List.Mem.tail _ (List.Mem.tail _ (List.Mem.tail _ (List.Mem.head _)))))))), h a8 (List.Mem.tail _ (List.Mem.tail _ (List.Mem.tail _ (List.Mem.tail _ (List.Mem.tail _ (List.Mem.tail _ (List.Mem.tail _ (List.Mem.tail _ (List.Mem.head _))))))))), h a9 (List.Mem.tail _ (List.Mem.tail _ (List.Mem.tail _ (List.Mem.tail _ (List.Mem.tail _ (List.Mem.tail _ (List.Mem.tail _ (List.Mem.tail _ (List.Mem.tail _ (List.Mem.head _))))))))))⟩
theorem zu_11 {T : List Cond} {a0 a1 a2 a3 a4 a5 a6 a7 a8 a9 a10 : Cond} (h : ∀ w ∈ [a0, a1, a2, a3, a4, a5, a6, a7, a8, a9, a10], w ∈ T) : a0 ∈ T ∧ a1 ∈ T ∧ a2 ∈ T ∧ a3 ∈ T ∧ a4 ∈ T ∧ a5 ∈ T ∧ a6 ∈ T ∧ a7 ∈ T ∧ a8 ∈ T ∧ a9 ∈ T ∧ a10 ∈ T := ⟨h a0 (List.Mem.head _), h a1 (List.Mem.tail _ (List.Mem.head _)), h a2 (List.Mem.tail _ (List.Mem.tail _ (List.Mem.head _))), h a3 (List.Mem.tail _ (List.Mem.tail _ (List.Mem.tail _ (List.Mem.head _)))), h a4 (List.Mem.tail _ (List.Mem.tail _ (List.Mem.tail _ (List.Mem.tail _ (List.Mem.head _))))), h a5 (List.Mem.tail _ (List.Mem.tail _ (List.Mem.tail _ (List.Mem.tail _ (List.Mem.tail _ (List.Mem.head _)))))), h a6 (List.Mem.tail _ (List.Mem.tail _ (List.Mem.tail _ (List.Mem.tail _ (List.Mem.tail _ (List.Mem.tail _ (List.Mem.head _))))))), h a7 (List.Mem.tail _ (List.Mem.tail _ (List.Mem.tail _ (List.Mem.tail _ (List.Mem.tail _ (List.Mem.tail _ (List.Mem.tail _ (List.Mem.head _)))))))), h a8 (List.Mem.tail _ (List.Mem.tail _ (List.Mem.tail _ (List.Mem.tail _ (List.Mem.tail _ (List.Mem.tail _ (List.Mem.tail _ (List.Mem.tail _ (List.Mem.head _))))))))), h a9 (List.Mem.tail _ (List.Mem.tail _ (List.Mem.tail _ (List.Mem.tail _ (List.Mem.tail _ (List.Mem.tail _ (List.Mem.tail _ (List.Mem.tail _ (List.Mem.tail _ (List.Mem.head _)))))))))), h a10 (List.Mem.tail _ (List.Mem.tail _ (List.Mem.tail _ (List.Mem.tail _ (List.Mem.tail _ (List.Mem.tail _ (List.Mem.tail _ (List.Mem.tail _ (List.Mem.tail _ (List.Mem.tail _ (List.Mem.head _)))))))))))⟩
theorem zu_12 {T : List Cond} {a0 a1 a2 a3 a4 a5 a6 a7 a8 a9 a10 a11 : Cond} (h : ∀ w ∈ [a0, a1, a2, a3, a4, a5, a6, a7, a8, a9, a10, a11], w ∈ T) : a0 ∈ T ∧ a1 ∈ T ∧ a2 ∈ T ∧ a3 ∈ T ∧ a4 ∈ T ∧ a5 ∈ T ∧ a6 ∈ T ∧ a7 ∈ T ∧ a8 ∈ T ∧ a9 ∈ T ∧ a10 ∈ T ∧ a11 ∈ T := ⟨h a0 (List.Mem.head _), h a1 (List.Mem.tail _ (List.Mem.head _)), h a2 (List.Mem.tail _ (List.Mem.tail _ (List.Mem.head _))), h a3 (List.Mem.tail _ (List.Mem.tail _ (List.Mem.tail _ (List.Mem.head _)))), h a4 (List.Mem.tail _ (List.Mem.tail _ (List.Mem.tail _ (List.Mem.tail _ (List.Mem.head _))))), h a5 (List.Mem.tail _ (List.Mem.tail _ (List.Mem.tail _ (List.Mem.tail _ (List.Mem.tail _ (List.Mem.head _)))))), h a6 (List.Mem.tail _ (List.Mem.tail _ (List.Mem.tail _ (List.Mem.tail _ (List.Mem.tail _ (List.Mem.tail _ (List.Mem.head _))))))), h a7 (List.Mem.tail _ (List.Mem.tail _ (List.Mem.tail _ (List.Mem.tail _ (List.Mem.tail _ (List.Mem.tail _ (List.Mem.tail _ (List.Mem.head _)))))))), h a8 (List.Mem.tail _ (List.Mem.tail _ (List.Mem.tail _ (List.Mem.tail _ (List.Mem.tail _ (List.Mem.tail _ (List.Mem.tail _ (List.Mem.tail _ (List.Mem.head _))))))))), h a9 (List.Mem.tail _ (List.Mem.tail _ (List.Mem.tail _ (List.Mem.tail _ (List.Mem.tail _ (List.Mem.tail _ (List.Mem.tail _ (List.Mem.tail _ (List.Mem.tail _ (List.Mem.head _)))))))))), h a10 (List.Mem.tail _ (List.Mem.tail _ (List.Mem.tail _ (List.Mem.tail _ (List.Mem.tail _ (List.Mem.tail _ (List.Mem.tail _ (List.Mem.tail _ (List.Mem.tail _ (List.Mem.tail _ (List.Mem.head _))))))))))), h a11 (List.Mem.tail _ (List.Mem.tail _ (List.Mem.tail _ (List.Mem.tail _ (List.Mem.tail _ (List.Mem.tail _ (List.Mem.tail _ (List.Mem.tail _ (List.Mem.tail _ (List.Mem.tail _ (List.Mem.tail _ (List.Mem.head _))))))))))))⟩
theorem zu_13 {T : List Cond} {a0 a1 a2 a3 a4 a5 a6 a7 a8 a9 a10 a11 a12 : Cond} (h : ∀ w ∈ [a0, a1, a2, a3, a4, a5, a6, a7, a8, a9, a10, a11, a12], w ∈ T) : a0 ∈ T ∧ a1 ∈ T ∧ a2 ∈ T ∧ a3 ∈ T ∧ a4 ∈ T ∧ a5 ∈ T ∧ a6 ∈ T ∧ a7 ∈ T ∧ a8 ∈ T ∧ a9 ∈ T ∧ a10 ∈ T ∧ a11 ∈ T ∧ a12 ∈ T := ⟨h a0 (List.Mem.head _), h a1 (List.Mem.tail _ (List.Mem.head _)), h a2 (List.Mem.tail _ (List.Mem.tail _ (List.Mem.head _))), h a3 (List.Mem.tail _ (List.Mem.tail _ (List.Mem.tail _ (List.Mem.head _)))), h a4 (List.Mem.tail _ (List.Mem.tail _ (List.Mem.tail _ (List.Mem.tail _ (List.Mem.head _))))), h a5 (List.Mem.tail _ (List.Mem.tail _ (List.Mem.tail _ (List.Mem.tail _ (List.Mem.tail _ (List.Mem.head _)))))), h a6 (List.Mem.tail _ (List.Mem.tail _ (List.Mem.tail _ (List.Mem.tail _ (List.Mem.tail _ (List.Mem.tail _ (List.Mem.head _))))))), h a7 (List.Mem.tail _ (List.Mem.tail _ (List.Mem.tail _ (List.Mem.tail _ (List.Mem.tail _ (List.Mem.tail _ (List.Mem.tail _ (List.Mem.head _)))))))), h a8 (List.Mem.tail _ (List.Mem.tail _ (List.Mem.tail _ (List.Mem.tail _ (List.Mem.tail _ (List.Mem.tail _ (List.Mem.tail _ (List.Mem.tail _ (List.Mem.head _))))))))), h a9 (List.Mem.tail _ (List.Mem.tail _ (List.Mem.tail _ (List.Mem.tail _ (List.Mem.tail _ (List.Mem.tail _ (List.Mem.tail _ (List.Mem.tail _ (List.Mem.tail _ (List.Mem.head _)))))))))), h a10 (List.Mem.tail _ (List.Mem.tail _ (List.Mem.tail _ (List.Mem.tail _ (List.Mem.tail _ (List.Mem.tail _ (List.Mem.tail _ (List.Mem.tail _ (List.Mem.tail _ (List.Mem.tail _ (List.Mem.head _))))))))))), h a11 (List.Mem.tail _ (List.Mem.tail _ (List.Mem.tail _ (List.Mem.tail _ (List.Mem.tail _ (List.Mem.tail _ (List.Mem.tail _ (List.Mem.tail _ (List.Mem.tail _ (List.Mem.tail _ (List.Mem.tail _ (List.Mem.head _)))))))))))), h a12 (List.Mem.tail _ (List.Mem.tail _ (List.Mem.tail _ (List.Mem.tail _ (List.Mem.tail _ (List.Mem.tail _ (List.Mem.tail _ (List.Mem.tail _ (List.Mem.tail _ (List.Mem.tail _ (List.Mem.tail _ (List.Mem.tail _ (List.Mem.head _)))))))))))))⟩
theorem zu_14 {T : List Cond} {a0 a1 a2 a3 a4 a5 a6 a7 a8 a9 a10 a11 a12 a13 : Cond} (h : ∀ w ∈ [a0, a1, a2, a3, a4, a5, a6, a7, a8, a9, a10, a11, a12, a13], w ∈ T) : a0 ∈ T ∧ a1 ∈ T ∧ a2 ∈ T ∧ a3 ∈ T ∧ a4 ∈ T ∧ a5 ∈ T ∧ a6 ∈ T ∧ a7 ∈ T ∧ a8 ∈ T ∧ a9 ∈ T ∧ a10 ∈ T ∧ a11 ∈ T ∧ a12 ∈ T ∧ a13 ∈ T := ⟨h a0 (List.Mem.head _), h a1 (List.Mem.tail _ (List.Mem.head _)), h a2 (List.Mem.tail _ (List.Mem.tail _ (List.Mem.head _))), h a3 (List.Mem.tail _ (List.Mem.tail _ (List.Mem.tail _ (List.Mem.head _)))), h a4 (List.Mem.tail _ (List.Mem.tail _ (List.Mem.tail _ (List.Mem.tail _ (List.Mem.head _))))), h a5 (List.Mem.tail _ (List.Mem.tail _ (List.Mem.tail _ (List.Mem.tail _ (List.Mem.tail _ (List.Mem.head _)))))), h a6 (List.Mem.tail _ (List.Mem.tail _ (List.Mem.tail _ (List.Mem.tail _ (List.Mem.tail _ (List.Mem.tail _ (List.Mem.head _))))))), h a7 (List.Mem.tail _ (List.Mem.tail _ (List.Mem.tail _ (List.Mem.tail _ (List.Mem.tail _ (List.Mem.tail _ (List.Mem.tail _ (List.Mem.head _)))))))), h a8 (List.Mem.tail _ (List.Mem.tail _ (List.Mem.tail _ (List.Mem.tail _ (List.Mem.tail _ (List.Mem.tail _ (List.Mem.tail _ (List.Mem.tail _ (List.Mem.head _))))))))), h a9 (List.Mem.tail _ (List.Mem.tail _ (List.Mem.tail _ (List.Mem.tail _ (List.Mem.tail _ (List.Mem.tail _ (List.Mem.tail _ (List.Mem.tail _ (List.Mem.tail _ (List.Mem.head _)))))))))), h a10 (List.Mem.tail _ (List.Mem.tail _ (List.Mem.tail _ (List.Mem.tail _ (List.Mem.tail _ (List.Mem.tail _ (List.Mem.tail _ (List.Mem.tail _ (List.Mem.tail _ (List.Mem.tail _ (List.Mem.head _))))))))))), h a11 (List.Mem.tail _ (List.Mem.tail _ (List.Mem.tail _ (List.Mem.tail _ (List.Mem.tail _ (List.Mem.tail _ (List.Mem.tail _ (List.Mem.tail _ (List.Mem.tail _ (List.Mem.tail _ (List.Mem.tail _ (List.Mem.head _)))))))))))), h a12 (List.Mem.tail _ (List.Mem.tail _ (List.Mem.tail _ (List.Mem.tail _ (List.Mem.tail _ (List.Mem.tail _ (List.Mem.tail _ (List.Mem.tail _ (List.Mem.tail _ (List.Mem.tail _ (List.Mem.tail _ (List.Mem.tail _ (List.Mem.head _))))))))))))), h a13 (List.Mem.tail _ (List.Mem.tail _ (List.Mem.tail _ (List.Mem.tail _ (List.Mem.tail _ (List.Mem.tail _ (List.Mem.tail _ (List.Mem.tail _ (List.Mem.tail _ (List.Mem.tail _ (List.Mem.tail _ (List.Mem.tail _ (List.Mem.tail _ (List.Mem.head _))))))))))))))⟩
theorem zu_15 {T : List Cond} {a0 a1 a2 a3 a4 a5 a6 a7 a8 a9 a10 a11 a12 a13 a14 : Cond} (h : ∀ w ∈ [a0, a1, a2, a3, a4, a5, a6, a7, a8, a9, a10, a11, a12, a13, a14], w ∈ T) : a0 ∈ T ∧ a1 ∈ T ∧ a2 ∈ T ∧ a3 ∈ T ∧ a4 ∈ T ∧ a5 ∈ T ∧ a6 ∈ T ∧ a7 ∈ T ∧ a8 ∈ T ∧ a9 ∈ T ∧ a10 ∈ T ∧ a11 ∈ T ∧ a12 ∈ T ∧ a13 ∈ T ∧ a14 ∈ T := ⟨h a0 (List.Mem.head _), h a1 (List.Mem.tail _ (List.Mem.head _)), h a2 (List.Mem.tail _ (List.Mem.tail _ (List.Mem.head _))), h a3 (List.Mem.tail _ (List.Mem.tail _ (List.Mem.tail _ (List.Mem.head _)))), h a4 (List.Mem.tail _ (List.Mem.tail _ (List.Mem.tail _ (List.Mem.tail _ (List.Mem.head _))))), h a5 (List.Mem.tail _ (List.Mem.tail _ (List.Mem.tail _ (List.Mem.tail _ (List.Mem.tail _ (List.Mem.head _)))))), h a6 (List.Mem.tail _ (List.Mem.tail _ (List.Mem.tail _ (List.Mem.tail _ (List.Mem.tail _ (List.Mem.tail _ (List.Mem.head _))))))), h a7 (List.Mem.tail _ (List.Mem.tail _ (List.Mem.tail _ (List.Mem.tail _ (List.Mem.tail _ (List.Mem.tail _ (List.Mem.tail _ (List.Mem.head _)))))))), h a8 (List.Mem.tail _ (List.Mem.tail _ (List.Mem.tail _ (List.Mem.tail _ (List.Mem.tail _ (List.Mem.tail _ (List.Mem.tail _ (List.Mem.tail _ (List.Mem.head _))))))))), h a9 (List.Mem.tail _ (List.Mem.tail _ (List.Mem.tail _ (List.Mem.tail _ (List.Mem.tail _ (List.Mem.tail _ (List.Mem.tail _ (List.Mem.tail _ (List.Mem.tail _ (List.Mem.head _)))))))))), h a10 (List.Mem.tail _ (List.Mem.tail _ (List.Mem.tail _ (List.Mem.tail _ (List.Mem.tail _ (List.Mem.tail _ (List.Mem.tail _ (List.Mem.tail _ (List.Mem.tail _ (List.Mem.tail _ (List.Mem.head _))))))))))), h a11 (List.Mem.tail _ (List.Mem.tail _ (List.Mem.tail _ (List.Mem.tail _ (List.Mem.tail _ (List.Mem.tail _ (List.Mem.tail _ (List.Mem.tail _ (List.Mem.tail _ (List.Mem.tail _ (List.Mem.tail _ (List.Mem.head _)))))))))))), h a12 (List.Mem.tail _ (List.Mem.tail _ (List.Mem.tail _ (List.Mem.tail _ (List.Mem.tail _ (List.Mem.tail _ (List.Mem.tail _ (List.Mem.tail _ (List.Mem.tail _ (List.Mem.tail _ (List.Mem.tail _ (List.Mem.tail _ (List.Mem.head _))))))))))))), h a13 (List.Mem.tail _ (List.Mem.tail _ (List.Mem.tail _ (List.Mem.tail _ (List.Mem.tail _ (List.Mem.tail _ (List.Mem.tail _ (List.Mem.tail _ (List.Mem.tail _ (List.Mem.tail _ (List.Mem.tail _ (List.Mem.tail _ (List.Mem.tail _ (List.Mem.head _)))))))))))))), h a14 (List.Mem.tail _ (List.Mem.tail _ (List.Mem.tail _ (List.Mem.tail _ (List.Mem.tail _ (List.Mem.tail _ (List.Mem.tail _ (List.Mem.tail _ (List.Mem.tail _ (List.Mem.tail _ (List.Mem.tail _ (List.Mem.tail _ (List.Mem.tail _ (List.Mem.tail _ (List.Mem.head _)))))))))))))))⟩
theorem zu_16 {T : List Cond} {a0 a1 a2 a3 a4 a5 a6 a7 a8 a9 a10 a11 a12 a13 a14 a15 : Cond} (h : ∀ w ∈ [a0, a1, a2, a3, a4, a5, a6, a7, a8, a9, a10, a11, a12, a13, a14, a15], w ∈ T) : a0 ∈ T ∧ a1 ∈ T ∧ a2 ∈ T ∧ a3 ∈ T ∧ a4 ∈ T ∧ a5 ∈ T ∧ a6 ∈ T ∧ a7 ∈ T ∧ a8 ∈ T ∧ a9 ∈ T ∧ a10 ∈ T ∧ a11 ∈ T ∧ a12 ∈ T ∧ a13 ∈ T ∧ a14 ∈ T ∧ a15 ∈ T := ⟨h a0 (List.Mem.head _), h a1 (List.Mem.tail _ (List.Mem.head _)), h a2 (List.Mem.tail _ (List.Mem.tail _ (List.Mem.head _))), h a3 (List.Mem.tail _ (List.Mem.tail _ (List.Mem.tail _ (List.Mem.head _)))), h a4 (List.Mem.tail _ (List.Mem.tail _ (List.Mem.tail _ (List.Mem.tail _ (List.Mem.head _))))), h a5 (List.Mem.tail _ (List.Mem.tail _ (List.Mem.tail _ (List.Mem.tail _ (List.Mem.tail _ (List.Mem.head _)))))), h a6 (List.Mem.tail _ (List.Mem.tail _ (List.Mem.tail _ (List.Mem.tail _ (List.Mem.tail _ (List.Mem.tail _ (List.Mem.head _))))))), h a7 (List.Mem.tail _ (List.Mem.tail _ (List.Mem.tail _ (List.Mem.tail _ (List.Mem.tail _ (List.Mem.tail _ (List.Mem.tail _ (List.Mem.head _)))))))), h a8 (List.Mem.tail _ (List.Mem.tail _ (List.Mem.tail _ (List.Mem.tail _ (List.Mem.tail _ (List.Mem.tail _ (List.Mem.tail _ (List.Mem.tail _ (List.Mem.head _))))))))), h a9 (List.Mem.tail _ (List.Mem.tail _ (List.Mem.tail _ (List.Mem.tail _ (List.Mem.tail _ (List.Mem.tail _ (List.Mem.tail _ (List.Mem.tail _ (List.Mem.tail _ (List.Mem.head _)))))))))), h a10 (List.Mem.tail _ (List.Mem.tail _ (List.Mem.tail _ (List.Mem.tail _ (List.Mem.tail _ (List.Mem.tail _ (List.Mem.tail _ (List.Mem.tail _ (List.Mem.tail _ (List.Mem.tail _ (List.Mem.head _))))))))))), h a11 (List.Mem.tail _ (List.Mem.tail _ (List.Mem.tail _ (List.Mem.tail _ (List.Mem.tail _ (List.Mem.tail _ (List.Mem.tail _ (List.Mem.tail _ (List.Mem.tail _ (List.Mem.tail _ (List.Mem.tail _ (List.Mem.head _)))))))))))), h a12 (List.Mem.tail _ (List.Mem.tail _ (List.Mem.tail _ (List.Mem.tail _ (List.Mem.tail _ (List.Mem.tail _ (List.Mem.tail _ (List.Mem.tail _ (List.Mem.tail _ (List.Mem.tail _ (List.Mem.tail _ (List.Mem.tail _ (List.Mem.head _))))))))))))), h a13 (List.Mem.tail _ (List.Mem.tail _ (List.Mem.tail _ (List.Mem.tail _ (List.Mem.tail _ (List.Mem.tail _ (List.Mem.tail _ (List.Mem.tail _ (List.Mem.tail _ (List.Mem.tail _ (List.Mem.tail _ (List.Mem.tail _ (List.Mem.tail _ (List.Mem.head _)))))))))))))), h a14 (List.Mem.tail _ (List.Mem.tail _ (List.Mem.tail _ (List.Mem.tail _ (List.Mem.tail _ (List.Mem.tail _ (List.Mem.tail _ (List.Mem.tail _ (List.Mem.tail _ (List.Mem.tail _ (List.Mem.tail _ (List.Mem.tail _ (List.Mem.tail _ (List.Mem.tail _ (List.Mem.head _))))))))))))))), h a15 (List.Mem.tail _ (List.Mem.tail _ (List.Mem.tail _ (List.Mem.tail _ (List.Mem.tail _ (List.Mem.tail _ (List.Mem.tail _ (List.Mem.tail _ (List.Mem.tail _ (List.Mem.tail _ (List.Mem.tail _ (List.Mem.tail _ (List.Mem.tail _ (List.Mem.tail _ (List.Mem.tail _ (List.Mem.head _))))))))))))))))⟩
theorem z_mt1 {w : Cond} (h : w ∈ tables_1_1) (hg : goodWord w = true) : w ∈ za_Ts := List.mem_filter.mpr ⟨List.mem_append_right _ (show w ∈ tables_1 from List.mem_append_left _ (h)), hg⟩
abbrev zl_1_0 : List Cond := [Jvm.Cond.initialized "LyndonBenchLaw", Jvm.Cond.initialized "LyndonBench", Jvm.Cond.initialized "LyndonBench$State", Jvm.Cond.initialized "LyndonBench$Word", Jvm.Cond.initialized "java/lang/Math", Jvm.Cond.initialized "LyndonBench$History", Jvm.Cond.initialized "LyndonBench$Script", Jvm.Cond.initialized "java/lang/String", Jvm.Cond.initialized "java/lang/StringLatin1", Jvm.Cond.initialized "jdk/internal/util/Preconditions", Jvm.Cond.initialized "java/lang/StringUTF16", Jvm.Cond.initialized "LyndonBenchModel", Jvm.Cond.initialized "java/lang/Throwable", Jvm.Cond.initialized "java/lang/Exception", Jvm.Cond.initialized "java/lang/RuntimeException", Jvm.Cond.initialized "java/lang/IllegalArgumentException"]
abbrev zl_1_1 : List Cond := [Jvm.Cond.initialized "java/lang/Enum", Jvm.Cond.initialized "LyndonBench$Command", Jvm.Cond.initialized "LyndonBench$1", Jvm.Cond.initialized "java/lang/IllegalStateException", Jvm.Cond.initialized "java/lang/IndexOutOfBoundsException", Jvm.Cond.initialized "java/util/NoSuchElementException", Jvm.Cond.classLink "LyndonBenchLaw" (8 : Nat) "LyndonBench", Jvm.Cond.instantiable "LyndonBench" (7 : Nat), Jvm.Cond.methodLink "LyndonBenchLaw" (100 : Nat) ({ cls := "LyndonBench", name := "<init>", desc := "()V" } : Jvm.MethodName), Jvm.Cond.instanceMethod ({ cls := "LyndonBench", name := "<init>", desc := "()V" } : Jvm.MethodName), Jvm.Cond.code ({ cls := "LyndonBench", name := "<init>", desc := "()V" } : Jvm.MethodName) prog_1_method_1_code (1 : Nat) (Option.none : Option Jvm.ClassFile.FieldType), Jvm.Cond.methodLink "LyndonBench" (3 : Nat) ({ cls := "java/lang/Object", name := "<init>", desc := "()V" } : Jvm.MethodName), Jvm.Cond.instanceMethod ({ cls := "java/lang/Object", name := "<init>", desc := "()V" } : Jvm.MethodName), Jvm.Cond.code ({ cls := "java/lang/Object", name := "<init>", desc := "()V" } : Jvm.MethodName) object_method_1_code (1 : Nat) (Option.none : Option Jvm.ClassFile.FieldType), Jvm.Cond.classLink "LyndonBench" (9 : Nat) "LyndonBench$State", Jvm.Cond.instantiable "LyndonBench$State" (4 : Nat)]
abbrev zl_1_2 : List Cond := [Jvm.Cond.methodLink "LyndonBench" (11 : Nat) ({ cls := "LyndonBench$State", name := "<init>", desc := "()V" } : Jvm.MethodName), Jvm.Cond.instanceMethod ({ cls := "LyndonBench$State", name := "<init>", desc := "()V" } : Jvm.MethodName), Jvm.Cond.code ({ cls := "LyndonBench$State", name := "<init>", desc := "()V" } : Jvm.MethodName) prog_6_method_1_code (2 : Nat) (Option.none : Option Jvm.ClassFile.FieldType), Jvm.Cond.methodLink "LyndonBench$State" (3 : Nat) ({ cls := "java/lang/Object", name := "<init>", desc := "()V" } : Jvm.MethodName), Jvm.Cond.classLink "LyndonBench$State" (15 : Nat) "LyndonBench$Word", Jvm.Cond.instantiable "LyndonBench$Word" (2 : Nat), Jvm.Cond.methodLink "LyndonBench$State" (17 : Nat) ({ cls := "LyndonBench$Word", name := "<init>", desc := "(I)V" } : Jvm.MethodName), Jvm.Cond.instanceMethod ({ cls := "LyndonBench$Word", name := "<init>", desc := "(I)V" } : Jvm.MethodName), Jvm.Cond.code ({ cls := "LyndonBench$Word", name := "<init>", desc := "(I)V" } : Jvm.MethodName) prog_7_method_1_code (2 : Nat) (Option.none : Option Jvm.ClassFile.FieldType), Jvm.Cond.methodLink "LyndonBench$Word" (3 : Nat) ({ cls := "java/lang/Object", name := "<init>", desc := "()V" } : Jvm.MethodName), Jvm.Cond.methodLink "LyndonBench$Word" (15 : Nat) ({ cls := "java/lang/Math", name := "max", desc := "(II)I" } : Jvm.MethodName), Jvm.Cond.static ({ cls := "java/lang/Math", name := "max", desc := "(II)I" } : Jvm.MethodName), Jvm.Cond.code ({ cls := "java/lang/Math", name := "max", desc := "(II)I" } : Jvm.MethodName) prog_18_method_65_code (2 : Nat) (Option.some Jvm.ClassFile.FieldType.int), Jvm.Cond.fieldLink "LyndonBench$Word" (21 : Nat) "LyndonBench$Word" "row" "[B", Jvm.Cond.fieldLink "LyndonBench$Word" (9 : Nat) "LyndonBench$Word" "size" "I", Jvm.Cond.fieldLink "LyndonBench" (70 : Nat) "LyndonBench$Word" "size" "I"]
abbrev zl_1_3 : List Cond := [Jvm.Cond.fieldLink "LyndonBench$State" (42 : Nat) "LyndonBench$Word" "size" "I", Jvm.Cond.fieldLink "LyndonBench$Script" (156 : Nat) "LyndonBench$Word" "size" "I", Jvm.Cond.laysFinal "LyndonBench$Word" "LyndonBench$Word" "row" "[B", Jvm.Cond.soleField "LyndonBench$Word" "row", Jvm.Cond.lays "LyndonBench$Word" "LyndonBench$Word" "size" "I", Jvm.Cond.soleField "LyndonBench$Word" "size", Jvm.Cond.superclass "LyndonBench$Word" "java/lang/Object", Jvm.Cond.arrayClass Jvm.ClassFile.FieldType.byte, Jvm.Cond.arrayOver (Jvm.ClassFile.FieldType.object "LyndonBench$Word"), Jvm.Cond.fieldLink "LyndonBench$State" (9 : Nat) "LyndonBench$State" "letterCount" "I", Jvm.Cond.fieldLink "LyndonBench" (113 : Nat) "LyndonBench$State" "letterCount" "I", Jvm.Cond.fieldLink "LyndonBench$State" (20 : Nat) "LyndonBench$State" "text" "LLyndonBench$Word;", Jvm.Cond.fieldLink "LyndonBench" (52 : Nat) "LyndonBench$State" "text" "LLyndonBench$Word;", Jvm.Cond.fieldLink "LyndonBench$Script" (153 : Nat) "LyndonBench$State" "text" "LLyndonBench$Word;", Jvm.Cond.fieldLink "LyndonBench$State" (24 : Nat) "LyndonBench$State" "shelf" "[LLyndonBench$Word;", Jvm.Cond.fieldLink "LyndonBench$State" (28 : Nat) "LyndonBench$State" "keptWords" "I"]
abbrev zl_1_4 : List Cond := [Jvm.Cond.fieldLink "LyndonBench" (183 : Nat) "LyndonBench$State" "keptWords" "I", Jvm.Cond.fieldLink "LyndonBench$Script" (203 : Nat) "LyndonBench$State" "keptWords" "I", Jvm.Cond.lays "LyndonBench$State" "LyndonBench$State" "letterCount" "I", Jvm.Cond.soleField "LyndonBench$State" "letterCount", Jvm.Cond.laysFinal "LyndonBench$State" "LyndonBench$State" "text" "LLyndonBench$Word;", Jvm.Cond.soleField "LyndonBench$State" "text", Jvm.Cond.laysFinal "LyndonBench$State" "LyndonBench$State" "shelf" "[LLyndonBench$Word;", Jvm.Cond.soleField "LyndonBench$State" "shelf", Jvm.Cond.lays "LyndonBench$State" "LyndonBench$State" "keptWords" "I", Jvm.Cond.soleField "LyndonBench$State" "keptWords", Jvm.Cond.superclass "LyndonBench$State" "java/lang/Object", Jvm.Cond.classLink "LyndonBench" (16 : Nat) "LyndonBench$History", Jvm.Cond.instantiable "LyndonBench$History" (2 : Nat), Jvm.Cond.methodLink "LyndonBench" (18 : Nat) ({ cls := "LyndonBench$History", name := "<init>", desc := "()V" } : Jvm.MethodName), Jvm.Cond.instanceMethod ({ cls := "LyndonBench$History", name := "<init>", desc := "()V" } : Jvm.MethodName), Jvm.Cond.code ({ cls := "LyndonBench$History", name := "<init>", desc := "()V" } : Jvm.MethodName) prog_4_method_1_code (2 : Nat) (Option.none : Option Jvm.ClassFile.FieldType)]
abbrev zl_1_5 : List Cond := [Jvm.Cond.methodLink "LyndonBench$History" (3 : Nat) ({ cls := "java/lang/Object", name := "<init>", desc := "()V" } : Jvm.MethodName), Jvm.Cond.classLink "LyndonBench$History" (9 : Nat) "LyndonBench$State", Jvm.Cond.arrayOver (Jvm.ClassFile.FieldType.object "LyndonBench$State"), Jvm.Cond.methodLink "LyndonBench$History" (21 : Nat) ({ cls := "LyndonBench$State", name := "<init>", desc := "()V" } : Jvm.MethodName), Jvm.Cond.fieldLink "LyndonBench$History" (11 : Nat) "LyndonBench$History" "states" "[LLyndonBench$State;", Jvm.Cond.fieldLink "LyndonBench$History" (17 : Nat) "LyndonBench$History" "count" "I", Jvm.Cond.fieldLink "LyndonBench" (212 : Nat) "LyndonBench$History" "count" "I", Jvm.Cond.laysFinal "LyndonBench$History" "LyndonBench$History" "states" "[LLyndonBench$State;", Jvm.Cond.soleField "LyndonBench$History" "states", Jvm.Cond.lays "LyndonBench$History" "LyndonBench$History" "count" "I", Jvm.Cond.soleField "LyndonBench$History" "count", Jvm.Cond.superclass "LyndonBench$History" "java/lang/Object", Jvm.Cond.classLink "LyndonBench" (30 : Nat) "LyndonBench$Script", Jvm.Cond.instantiable "LyndonBench$Script" (12 : Nat), Jvm.Cond.methodLinkNest "LyndonBench" (32 : Nat) ({ cls := "LyndonBench$Script", name := "<init>", desc := "()V" } : Jvm.MethodName) "LyndonBench", Jvm.Cond.instanceMethod ({ cls := "LyndonBench$Script", name := "<init>", desc := "()V" } : Jvm.MethodName)]
abbrev zl_1_6 : List Cond := [Jvm.Cond.code ({ cls := "LyndonBench$Script", name := "<init>", desc := "()V" } : Jvm.MethodName) prog_5_method_1_code (1 : Nat) (Option.none : Option Jvm.ClassFile.FieldType), Jvm.Cond.methodLink "LyndonBench$Script" (3 : Nat) ({ cls := "java/lang/Object", name := "<init>", desc := "()V" } : Jvm.MethodName), Jvm.Cond.classLink "LyndonBench$Script" (9 : Nat) "LyndonBench$Word", Jvm.Cond.methodLink "LyndonBench$Script" (11 : Nat) ({ cls := "LyndonBench$Word", name := "<init>", desc := "(I)V" } : Jvm.MethodName), Jvm.Cond.classLink "LyndonBench$Script" (20 : Nat) "LyndonBench$State", Jvm.Cond.methodLink "LyndonBench$Script" (22 : Nat) ({ cls := "LyndonBench$State", name := "<init>", desc := "()V" } : Jvm.MethodName), Jvm.Cond.fieldLink "LyndonBench$Script" (14 : Nat) "LyndonBench$Script" "source" "LLyndonBench$Word;", Jvm.Cond.fieldLink "LyndonBench" (67 : Nat) "LyndonBench$Script" "source" "LLyndonBench$Word;", Jvm.Cond.fieldLink "LyndonBench$Script" (23 : Nat) "LyndonBench$Script" "state" "LLyndonBench$State;", Jvm.Cond.fieldLink "LyndonBench" (96 : Nat) "LyndonBench$Script" "state" "LLyndonBench$State;", Jvm.Cond.fieldLink "LyndonBench$Script" (27 : Nat) "LyndonBench$Script" "errorKind" "I", Jvm.Cond.fieldLink "LyndonBench" (220 : Nat) "LyndonBench$Script" "errorKind" "I", Jvm.Cond.fieldLink "LyndonBench$Script" (31 : Nat) "LyndonBench$Script" "errorOffset" "I", Jvm.Cond.fieldLink "LyndonBench" (223 : Nat) "LyndonBench$Script" "errorOffset" "I", Jvm.Cond.fieldLink "LyndonBench$Script" (34 : Nat) "LyndonBench$Script" "token" "I", Jvm.Cond.fieldLink "LyndonBench$Script" (37 : Nat) "LyndonBench$Script" "tokenStart" "I"]
abbrev zl_1_7 : List Cond := [Jvm.Cond.fieldLink "LyndonBench$Script" (40 : Nat) "LyndonBench$Script" "position" "I", Jvm.Cond.fieldLink "LyndonBench$Script" (43 : Nat) "LyndonBench$Script" "number" "I", Jvm.Cond.fieldLink "LyndonBench$Script" (46 : Nat) "LyndonBench$Script" "executed" "I", Jvm.Cond.fieldLink "LyndonBench$Script" (49 : Nat) "LyndonBench$Script" "nesting" "I", Jvm.Cond.fieldLink "LyndonBench$Script" (52 : Nat) "LyndonBench$Script" "bodies" "[I", Jvm.Cond.fieldLink "LyndonBench$Script" (56 : Nat) "LyndonBench$Script" "rounds" "[I", Jvm.Cond.laysFinal "LyndonBench$Script" "LyndonBench$Script" "source" "LLyndonBench$Word;", Jvm.Cond.soleField "LyndonBench$Script" "source", Jvm.Cond.laysFinal "LyndonBench$Script" "LyndonBench$Script" "state" "LLyndonBench$State;", Jvm.Cond.soleField "LyndonBench$Script" "state", Jvm.Cond.lays "LyndonBench$Script" "LyndonBench$Script" "errorKind" "I", Jvm.Cond.soleField "LyndonBench$Script" "errorKind", Jvm.Cond.lays "LyndonBench$Script" "LyndonBench$Script" "errorOffset" "I", Jvm.Cond.soleField "LyndonBench$Script" "errorOffset", Jvm.Cond.lays "LyndonBench$Script" "LyndonBench$Script" "token" "I", Jvm.Cond.soleField "LyndonBench$Script" "token"]
abbrev zl_1_8 : List Cond := [Jvm.Cond.lays "LyndonBench$Script" "LyndonBench$Script" "tokenStart" "I", Jvm.Cond.soleField "LyndonBench$Script" "tokenStart", Jvm.Cond.lays "LyndonBench$Script" "LyndonBench$Script" "position" "I", Jvm.Cond.soleField "LyndonBench$Script" "position", Jvm.Cond.lays "LyndonBench$Script" "LyndonBench$Script" "number" "I", Jvm.Cond.soleField "LyndonBench$Script" "number", Jvm.Cond.lays "LyndonBench$Script" "LyndonBench$Script" "executed" "I", Jvm.Cond.soleField "LyndonBench$Script" "executed", Jvm.Cond.lays "LyndonBench$Script" "LyndonBench$Script" "nesting" "I", Jvm.Cond.soleField "LyndonBench$Script" "nesting", Jvm.Cond.laysFinal "LyndonBench$Script" "LyndonBench$Script" "bodies" "[I", Jvm.Cond.soleField "LyndonBench$Script" "bodies", Jvm.Cond.laysFinal "LyndonBench$Script" "LyndonBench$Script" "rounds" "[I", Jvm.Cond.soleField "LyndonBench$Script" "rounds", Jvm.Cond.superclass "LyndonBench$Script" "java/lang/Object", Jvm.Cond.arrayClass Jvm.ClassFile.FieldType.int]
abbrev zl_1_9 : List Cond := [Jvm.Cond.classLink "LyndonBench" (37 : Nat) "LyndonBench$Word", Jvm.Cond.methodLink "LyndonBench" (39 : Nat) ({ cls := "LyndonBench$Word", name := "<init>", desc := "(I)V" } : Jvm.MethodName), Jvm.Cond.methodLink "LyndonBench" (49 : Nat) ({ cls := "LyndonBench$State", name := "clear", desc := "(I)V" } : Jvm.MethodName), Jvm.Cond.instanceMethod ({ cls := "LyndonBench$State", name := "clear", desc := "(I)V" } : Jvm.MethodName), Jvm.Cond.selects "LyndonBench$State" ({ cls := "LyndonBench$State", name := "clear", desc := "(I)V" } : Jvm.MethodName) ({ cls := "LyndonBench$State", name := "clear", desc := "(I)V" } : Jvm.MethodName), Jvm.Cond.code ({ cls := "LyndonBench$State", name := "clear", desc := "(I)V" } : Jvm.MethodName) prog_6_method_2_code (2 : Nat) (Option.none : Option Jvm.ClassFile.FieldType), Jvm.Cond.methodLink "LyndonBench$State" (31 : Nat) ({ cls := "LyndonBench$Word", name := "clear", desc := "()V" } : Jvm.MethodName), Jvm.Cond.instanceMethod ({ cls := "LyndonBench$Word", name := "clear", desc := "()V" } : Jvm.MethodName), Jvm.Cond.selects "LyndonBench$Word" ({ cls := "LyndonBench$Word", name := "clear", desc := "()V" } : Jvm.MethodName) ({ cls := "LyndonBench$Word", name := "clear", desc := "()V" } : Jvm.MethodName), Jvm.Cond.code ({ cls := "LyndonBench$Word", name := "clear", desc := "()V" } : Jvm.MethodName) prog_7_method_4_code (1 : Nat) (Option.none : Option Jvm.ClassFile.FieldType), Jvm.Cond.stringRef "LyndonBench" (55 : Nat) "acabaabaccabab", Jvm.Cond.methodLink "LyndonBench" (57 : Nat) ({ cls := "LyndonBench$Word", name := "addString", desc := "(Ljava/lang/String;)V" } : Jvm.MethodName), Jvm.Cond.instanceMethod ({ cls := "LyndonBench$Word", name := "addString", desc := "(Ljava/lang/String;)V" } : Jvm.MethodName), Jvm.Cond.selects "LyndonBench$Word" ({ cls := "LyndonBench$Word", name := "addString", desc := "(Ljava/lang/String;)V" } : Jvm.MethodName) ({ cls := "LyndonBench$Word", name := "addString", desc := "(Ljava/lang/String;)V" } : Jvm.MethodName), Jvm.Cond.code ({ cls := "LyndonBench$Word", name := "addString", desc := "(Ljava/lang/String;)V" } : Jvm.MethodName) prog_7_method_7_code (3 : Nat) (Option.none : Option Jvm.ClassFile.FieldType), Jvm.Cond.methodLink "LyndonBench$Word" (29 : Nat) ({ cls := "java/lang/String", name := "length", desc := "()I" } : Jvm.MethodName)]
abbrev zl_1_10 : List Cond := [Jvm.Cond.instanceMethod ({ cls := "java/lang/String", name := "length", desc := "()I" } : Jvm.MethodName), Jvm.Cond.selects "java/lang/String" ({ cls := "java/lang/String", name := "length", desc := "()I" } : Jvm.MethodName) ({ cls := "java/lang/String", name := "length", desc := "()I" } : Jvm.MethodName), Jvm.Cond.code ({ cls := "java/lang/String", name := "length", desc := "()I" } : Jvm.MethodName) prog_20_method_54_code (1 : Nat) (Option.some Jvm.ClassFile.FieldType.int), Jvm.Cond.methodLink "java/lang/String" (335 : Nat) ({ cls := "java/lang/String", name := "coder", desc := "()B" } : Jvm.MethodName), Jvm.Cond.instanceMethod ({ cls := "java/lang/String", name := "coder", desc := "()B" } : Jvm.MethodName), Jvm.Cond.selects "java/lang/String" ({ cls := "java/lang/String", name := "coder", desc := "()B" } : Jvm.MethodName) ({ cls := "java/lang/String", name := "coder", desc := "()B" } : Jvm.MethodName), Jvm.Cond.code ({ cls := "java/lang/String", name := "coder", desc := "()B" } : Jvm.MethodName) prog_20_method_152_code (1 : Nat) (Option.some Jvm.ClassFile.FieldType.byte), Jvm.Cond.fieldLink "java/lang/String" (38 : Nat) "java/lang/String" "COMPACT_STRINGS" "Z", Jvm.Cond.laysStatic "java/lang/String" "COMPACT_STRINGS" "Z", Jvm.Cond.methodLink "LyndonBench$Word" (35 : Nat) ({ cls := "java/lang/String", name := "charAt", desc := "(I)C" } : Jvm.MethodName), Jvm.Cond.instanceMethod ({ cls := "java/lang/String", name := "charAt", desc := "(I)C" } : Jvm.MethodName), Jvm.Cond.selects "java/lang/String" ({ cls := "java/lang/String", name := "charAt", desc := "(I)C" } : Jvm.MethodName) ({ cls := "java/lang/String", name := "charAt", desc := "(I)C" } : Jvm.MethodName), Jvm.Cond.code ({ cls := "java/lang/String", name := "charAt", desc := "(I)C" } : Jvm.MethodName) prog_20_method_56_code (2 : Nat) (Option.some Jvm.ClassFile.FieldType.char), Jvm.Cond.methodLink "java/lang/String" (492 : Nat) ({ cls := "java/lang/String", name := "isLatin1", desc := "()Z" } : Jvm.MethodName), Jvm.Cond.instanceMethod ({ cls := "java/lang/String", name := "isLatin1", desc := "()Z" } : Jvm.MethodName), Jvm.Cond.selects "java/lang/String" ({ cls := "java/lang/String", name := "isLatin1", desc := "()Z" } : Jvm.MethodName) ({ cls := "java/lang/String", name := "isLatin1", desc := "()Z" } : Jvm.MethodName)]
abbrev zl_1_11 : List Cond := [Jvm.Cond.code ({ cls := "java/lang/String", name := "isLatin1", desc := "()Z" } : Jvm.MethodName) prog_20_method_154_code (1 : Nat) (Option.some Jvm.ClassFile.FieldType.boolean), Jvm.Cond.methodLink "java/lang/String" (495 : Nat) ({ cls := "java/lang/StringLatin1", name := "charAt", desc := "([BI)C" } : Jvm.MethodName), Jvm.Cond.static ({ cls := "java/lang/StringLatin1", name := "charAt", desc := "([BI)C" } : Jvm.MethodName), Jvm.Cond.code ({ cls := "java/lang/StringLatin1", name := "charAt", desc := "([BI)C" } : Jvm.MethodName) prog_21_method_2_code (2 : Nat) (Option.some Jvm.ClassFile.FieldType.char), Jvm.Cond.methodLink "java/lang/StringLatin1" (9 : Nat) ({ cls := "java/lang/String", name := "checkIndex", desc := "(II)V" } : Jvm.MethodName), Jvm.Cond.static ({ cls := "java/lang/String", name := "checkIndex", desc := "(II)V" } : Jvm.MethodName), Jvm.Cond.code ({ cls := "java/lang/String", name := "checkIndex", desc := "(II)V" } : Jvm.MethodName) prog_20_method_155_code (2 : Nat) (Option.none : Option Jvm.ClassFile.FieldType), Jvm.Cond.fieldLink "java/lang/String" (1053 : Nat) "jdk/internal/util/Preconditions" "SIOOBE_FORMATTER" "Ljava/util/function/BiFunction;", Jvm.Cond.laysStatic "jdk/internal/util/Preconditions" "SIOOBE_FORMATTER" "Ljava/util/function/BiFunction;", Jvm.Cond.methodLink "java/lang/String" (1059 : Nat) ({ cls := "jdk/internal/util/Preconditions", name := "checkIndex", desc := "(IILjava/util/function/BiFunction;)I" } : Jvm.MethodName), Jvm.Cond.static ({ cls := "jdk/internal/util/Preconditions", name := "checkIndex", desc := "(IILjava/util/function/BiFunction;)I" } : Jvm.MethodName), Jvm.Cond.code ({ cls := "jdk/internal/util/Preconditions", name := "checkIndex", desc := "(IILjava/util/function/BiFunction;)I" } : Jvm.MethodName) prog_27_method_11_code (3 : Nat) (Option.some Jvm.ClassFile.FieldType.int), Jvm.Cond.methodLink "java/lang/String" (498 : Nat) ({ cls := "java/lang/StringUTF16", name := "charAt", desc := "([BI)C" } : Jvm.MethodName), Jvm.Cond.static ({ cls := "java/lang/StringUTF16", name := "charAt", desc := "([BI)C" } : Jvm.MethodName), Jvm.Cond.code ({ cls := "java/lang/StringUTF16", name := "charAt", desc := "([BI)C" } : Jvm.MethodName) prog_22_method_83_code (2 : Nat) (Option.some Jvm.ClassFile.FieldType.char), Jvm.Cond.methodLink "java/lang/StringUTF16" (67 : Nat) ({ cls := "java/lang/StringUTF16", name := "checkIndex", desc := "(I[B)V" } : Jvm.MethodName)]
abbrev zl_1_12 : List Cond := [Jvm.Cond.static ({ cls := "java/lang/StringUTF16", name := "checkIndex", desc := "(I[B)V" } : Jvm.MethodName), Jvm.Cond.code ({ cls := "java/lang/StringUTF16", name := "checkIndex", desc := "(I[B)V" } : Jvm.MethodName) prog_22_method_91_code (2 : Nat) (Option.none : Option Jvm.ClassFile.FieldType), Jvm.Cond.methodLink "java/lang/StringUTF16" (48 : Nat) ({ cls := "java/lang/StringUTF16", name := "length", desc := "([B)I" } : Jvm.MethodName), Jvm.Cond.static ({ cls := "java/lang/StringUTF16", name := "length", desc := "([B)I" } : Jvm.MethodName), Jvm.Cond.code ({ cls := "java/lang/StringUTF16", name := "length", desc := "([B)I" } : Jvm.MethodName) prog_22_method_6_code (1 : Nat) (Option.some Jvm.ClassFile.FieldType.int), Jvm.Cond.methodLink "java/lang/StringUTF16" (414 : Nat) ({ cls := "java/lang/String", name := "checkIndex", desc := "(II)V" } : Jvm.MethodName), Jvm.Cond.methodLink "java/lang/StringUTF16" (71 : Nat) ({ cls := "java/lang/StringUTF16", name := "getChar", desc := "([BI)C" } : Jvm.MethodName), Jvm.Cond.static ({ cls := "java/lang/StringUTF16", name := "getChar", desc := "([BI)C" } : Jvm.MethodName), Jvm.Cond.code ({ cls := "java/lang/StringUTF16", name := "getChar", desc := "([BI)C" } : Jvm.MethodName) prog_22_method_5_code (2 : Nat) (Option.some Jvm.ClassFile.FieldType.char), Jvm.Cond.fieldLink "java/lang/StringUTF16" (44 : Nat) "java/lang/StringUTF16" "$assertionsDisabled" "Z", Jvm.Cond.laysStatic "java/lang/StringUTF16" "$assertionsDisabled" "Z", Jvm.Cond.fieldLink "java/lang/StringUTF16" (59 : Nat) "java/lang/StringUTF16" "HI_BYTE_SHIFT" "I", Jvm.Cond.laysStatic "java/lang/StringUTF16" "HI_BYTE_SHIFT" "I", Jvm.Cond.fieldLink "java/lang/StringUTF16" (63 : Nat) "java/lang/StringUTF16" "LO_BYTE_SHIFT" "I", Jvm.Cond.laysStatic "java/lang/StringUTF16" "LO_BYTE_SHIFT" "I", Jvm.Cond.methodLink "LyndonBench$Word" (25 : Nat) ({ cls := "LyndonBench$Word", name := "add", desc := "(I)V" } : Jvm.MethodName)]
abbrev zl_1_13 : List Cond := [Jvm.Cond.instanceMethod ({ cls := "LyndonBench$Word", name := "add", desc := "(I)V" } : Jvm.MethodName), Jvm.Cond.selects "LyndonBench$Word" ({ cls := "LyndonBench$Word", name := "add", desc := "(I)V" } : Jvm.MethodName) ({ cls := "LyndonBench$Word", name := "add", desc := "(I)V" } : Jvm.MethodName), Jvm.Cond.code ({ cls := "LyndonBench$Word", name := "add", desc := "(I)V" } : Jvm.MethodName) prog_7_method_5_code (2 : Nat) (Option.none : Option Jvm.ClassFile.FieldType), Jvm.Cond.stringRef "LyndonBench" (61 : Nat) "abacab", Jvm.Cond.methodLink "LyndonBench" (63 : Nat) ({ cls := "LyndonBench$State", name := "keep", desc := "(LLyndonBench$Word;II)V" } : Jvm.MethodName), Jvm.Cond.instanceMethod ({ cls := "LyndonBench$State", name := "keep", desc := "(LLyndonBench$Word;II)V" } : Jvm.MethodName), Jvm.Cond.selects "LyndonBench$State" ({ cls := "LyndonBench$State", name := "keep", desc := "(LLyndonBench$Word;II)V" } : Jvm.MethodName) ({ cls := "LyndonBench$State", name := "keep", desc := "(LLyndonBench$Word;II)V" } : Jvm.MethodName), Jvm.Cond.code ({ cls := "LyndonBench$State", name := "keep", desc := "(LLyndonBench$Word;II)V" } : Jvm.MethodName) prog_6_method_9_code (5 : Nat) (Option.none : Option Jvm.ClassFile.FieldType), Jvm.Cond.methodLink "LyndonBench$State" (53 : Nat) ({ cls := "LyndonBench$Word", name := "addPart", desc := "(LLyndonBench$Word;II)V" } : Jvm.MethodName), Jvm.Cond.instanceMethod ({ cls := "LyndonBench$Word", name := "addPart", desc := "(LLyndonBench$Word;II)V" } : Jvm.MethodName), Jvm.Cond.selects "LyndonBench$Word" ({ cls := "LyndonBench$Word", name := "addPart", desc := "(LLyndonBench$Word;II)V" } : Jvm.MethodName) ({ cls := "LyndonBench$Word", name := "addPart", desc := "(LLyndonBench$Word;II)V" } : Jvm.MethodName), Jvm.Cond.code ({ cls := "LyndonBench$Word", name := "addPart", desc := "(LLyndonBench$Word;II)V" } : Jvm.MethodName) prog_7_method_8_code (5 : Nat) (Option.none : Option Jvm.ClassFile.FieldType), Jvm.Cond.methodLink "LyndonBench$Word" (39 : Nat) ({ cls := "LyndonBench$Word", name := "at", desc := "(I)I" } : Jvm.MethodName), Jvm.Cond.instanceMethod ({ cls := "LyndonBench$Word", name := "at", desc := "(I)I" } : Jvm.MethodName), Jvm.Cond.selects "LyndonBench$Word" ({ cls := "LyndonBench$Word", name := "at", desc := "(I)I" } : Jvm.MethodName) ({ cls := "LyndonBench$Word", name := "at", desc := "(I)I" } : Jvm.MethodName), Jvm.Cond.code ({ cls := "LyndonBench$Word", name := "at", desc := "(I)I" } : Jvm.MethodName) prog_7_method_2_code (2 : Nat) (Option.some Jvm.ClassFile.FieldType.int)]
abbrev zl_1_14 : List Cond := [Jvm.Cond.fieldLink "LyndonBench" (12 : Nat) "LyndonBench" "now" "LLyndonBench$State;", Jvm.Cond.fieldLink "LyndonBench" (19 : Nat) "LyndonBench" "history" "LLyndonBench$History;", Jvm.Cond.fieldLink "LyndonBench" (23 : Nat) "LyndonBench" "snapshot" "LLyndonBench$State;", Jvm.Cond.fieldLink "LyndonBench" (26 : Nat) "LyndonBench" "snapshotSaved" "Z", Jvm.Cond.fieldLink "LyndonBench" (33 : Nat) "LyndonBench" "script" "LLyndonBench$Script;", Jvm.Cond.fieldLink "LyndonBench" (42 : Nat) "LyndonBench" "report" "LLyndonBench$Word;", Jvm.Cond.fieldLink "LyndonBench" (46 : Nat) "LyndonBench" "trial" "LLyndonBench$Word;", Jvm.Cond.laysFinal "LyndonBench" "LyndonBench" "now" "LLyndonBench$State;", Jvm.Cond.soleField "LyndonBench" "now", Jvm.Cond.laysFinal "LyndonBench" "LyndonBench" "history" "LLyndonBench$History;", Jvm.Cond.soleField "LyndonBench" "history", Jvm.Cond.laysFinal "LyndonBench" "LyndonBench" "snapshot" "LLyndonBench$State;", Jvm.Cond.soleField "LyndonBench" "snapshot", Jvm.Cond.lays "LyndonBench" "LyndonBench" "snapshotSaved" "Z", Jvm.Cond.soleField "LyndonBench" "snapshotSaved", Jvm.Cond.laysFinal "LyndonBench" "LyndonBench" "script" "LLyndonBench$Script;"]
set_option maxRecDepth 100000 in
theorem ztq_1 : tables_1_1 = zl_1_0 ++ (zl_1_1 ++ (zl_1_2 ++ (zl_1_3 ++ (zl_1_4 ++ (zl_1_5 ++ (zl_1_6 ++ (zl_1_7 ++ (zl_1_8 ++ (zl_1_9 ++ (zl_1_10 ++ (zl_1_11 ++ (zl_1_12 ++ (zl_1_13 ++ (zl_1_14)))))))))))))) := rfl
theorem zls_1_0 : ∀ w ∈ zl_1_0, w ∈ tables_1_1 := fun w hw => by
  rw [ztq_1]
  exact List.mem_append_left _ hw
def zlt_1_0 := zu_16 zls_1_0
theorem zls_1_1 : ∀ w ∈ zl_1_1, w ∈ tables_1_1 := fun w hw => by
  rw [ztq_1]
  exact List.mem_append_right _ (List.mem_append_left _ hw)
def zlt_1_1 := zu_16 zls_1_1
theorem zls_1_2 : ∀ w ∈ zl_1_2, w ∈ tables_1_1 := fun w hw => by
  rw [ztq_1]
  exact List.mem_append_right _ (List.mem_append_right _ (List.mem_append_left _ hw))
def zlt_1_2 := zu_16 zls_1_2
theorem zls_1_3 : ∀ w ∈ zl_1_3, w ∈ tables_1_1 := fun w hw => by
  rw [ztq_1]
  exact List.mem_append_right _ (List.mem_append_right _ (List.mem_append_right _ (List.mem_append_left _ hw)))
def zlt_1_3 := zu_16 zls_1_3
theorem zls_1_4 : ∀ w ∈ zl_1_4, w ∈ tables_1_1 := fun w hw => by
  rw [ztq_1]
  exact List.mem_append_right _ (List.mem_append_right _ (List.mem_append_right _ (List.mem_append_right _ (List.mem_append_left _ hw))))
def zlt_1_4 := zu_16 zls_1_4
theorem zls_1_5 : ∀ w ∈ zl_1_5, w ∈ tables_1_1 := fun w hw => by
  rw [ztq_1]
  exact List.mem_append_right _ (List.mem_append_right _ (List.mem_append_right _ (List.mem_append_right _ (List.mem_append_right _ (List.mem_append_left _ hw)))))
def zlt_1_5 := zu_16 zls_1_5
theorem zls_1_6 : ∀ w ∈ zl_1_6, w ∈ tables_1_1 := fun w hw => by
  rw [ztq_1]
  exact List.mem_append_right _ (List.mem_append_right _ (List.mem_append_right _ (List.mem_append_right _ (List.mem_append_right _ (List.mem_append_right _ (List.mem_append_left _ hw))))))
def zlt_1_6 := zu_16 zls_1_6
theorem zls_1_7 : ∀ w ∈ zl_1_7, w ∈ tables_1_1 := fun w hw => by
  rw [ztq_1]
  exact List.mem_append_right _ (List.mem_append_right _ (List.mem_append_right _ (List.mem_append_right _ (List.mem_append_right _ (List.mem_append_right _ (List.mem_append_right _ (List.mem_append_left _ hw)))))))
def zlt_1_7 := zu_16 zls_1_7
theorem zls_1_8 : ∀ w ∈ zl_1_8, w ∈ tables_1_1 := fun w hw => by
  rw [ztq_1]
  exact List.mem_append_right _ (List.mem_append_right _ (List.mem_append_right _ (List.mem_append_right _ (List.mem_append_right _ (List.mem_append_right _ (List.mem_append_right _ (List.mem_append_right _ (List.mem_append_left _ hw))))))))
def zlt_1_8 := zu_16 zls_1_8
theorem zls_1_9 : ∀ w ∈ zl_1_9, w ∈ tables_1_1 := fun w hw => by
  rw [ztq_1]
  exact List.mem_append_right _ (List.mem_append_right _ (List.mem_append_right _ (List.mem_append_right _ (List.mem_append_right _ (List.mem_append_right _ (List.mem_append_right _ (List.mem_append_right _ (List.mem_append_right _ (List.mem_append_left _ hw)))))))))
def zlt_1_9 := zu_16 zls_1_9
theorem zls_1_10 : ∀ w ∈ zl_1_10, w ∈ tables_1_1 := fun w hw => by
  rw [ztq_1]
  exact List.mem_append_right _ (List.mem_append_right _ (List.mem_append_right _ (List.mem_append_right _ (List.mem_append_right _ (List.mem_append_right _ (List.mem_append_right _ (List.mem_append_right _ (List.mem_append_right _ (List.mem_append_right _ (List.mem_append_left _ hw))))))))))
def zlt_1_10 := zu_16 zls_1_10
theorem zls_1_11 : ∀ w ∈ zl_1_11, w ∈ tables_1_1 := fun w hw => by
  rw [ztq_1]
  exact List.mem_append_right _ (List.mem_append_right _ (List.mem_append_right _ (List.mem_append_right _ (List.mem_append_right _ (List.mem_append_right _ (List.mem_append_right _ (List.mem_append_right _ (List.mem_append_right _ (List.mem_append_right _ (List.mem_append_right _ (List.mem_append_left _ hw)))))))))))
def zlt_1_11 := zu_16 zls_1_11
theorem zls_1_12 : ∀ w ∈ zl_1_12, w ∈ tables_1_1 := fun w hw => by
  rw [ztq_1]
  exact List.mem_append_right _ (List.mem_append_right _ (List.mem_append_right _ (List.mem_append_right _ (List.mem_append_right _ (List.mem_append_right _ (List.mem_append_right _ (List.mem_append_right _ (List.mem_append_right _ (List.mem_append_right _ (List.mem_append_right _ (List.mem_append_right _ (List.mem_append_left _ hw))))))))))))
def zlt_1_12 := zu_16 zls_1_12
theorem zls_1_13 : ∀ w ∈ zl_1_13, w ∈ tables_1_1 := fun w hw => by
  rw [ztq_1]
  exact List.mem_append_right _ (List.mem_append_right _ (List.mem_append_right _ (List.mem_append_right _ (List.mem_append_right _ (List.mem_append_right _ (List.mem_append_right _ (List.mem_append_right _ (List.mem_append_right _ (List.mem_append_right _ (List.mem_append_right _ (List.mem_append_right _ (List.mem_append_right _ (List.mem_append_left _ hw)))))))))))))
def zlt_1_13 := zu_16 zls_1_13
theorem zls_1_14 : ∀ w ∈ zl_1_14, w ∈ tables_1_1 := fun w hw => by
  rw [ztq_1]
  exact List.mem_append_right _ (List.mem_append_right _ (List.mem_append_right _ (List.mem_append_right _ (List.mem_append_right _ (List.mem_append_right _ (List.mem_append_right _ (List.mem_append_right _ (List.mem_append_right _ (List.mem_append_right _ (List.mem_append_right _ (List.mem_append_right _ (List.mem_append_right _ (List.mem_append_right _ (hw))))))))))))))
def zlt_1_14 := zu_16 zls_1_14
theorem z_mt2 {w : Cond} (h : w ∈ tables_1_2) (hg : goodWord w = true) : w ∈ za_Ts := List.mem_filter.mpr ⟨List.mem_append_right _ (show w ∈ tables_1 from List.mem_append_right _ (List.mem_append_left _ (h))), hg⟩
abbrev zl_2_0 : List Cond := [Jvm.Cond.soleField "LyndonBench" "script", Jvm.Cond.laysFinal "LyndonBench" "LyndonBench" "report" "LLyndonBench$Word;", Jvm.Cond.soleField "LyndonBench" "report", Jvm.Cond.laysFinal "LyndonBench" "LyndonBench" "trial" "LLyndonBench$Word;", Jvm.Cond.soleField "LyndonBench" "trial", Jvm.Cond.superclass "LyndonBench" "java/lang/Object", Jvm.Cond.methodLink "LyndonBenchLaw" (104 : Nat) ({ cls := "LyndonBench", name := "append", desc := "(IIIII)I" } : Jvm.MethodName), Jvm.Cond.instanceMethod ({ cls := "LyndonBench", name := "append", desc := "(IIIII)I" } : Jvm.MethodName), Jvm.Cond.selects "LyndonBench" ({ cls := "LyndonBench", name := "append", desc := "(IIIII)I" } : Jvm.MethodName) ({ cls := "LyndonBench", name := "append", desc := "(IIIII)I" } : Jvm.MethodName), Jvm.Cond.code ({ cls := "LyndonBench", name := "append", desc := "(IIIII)I" } : Jvm.MethodName) prog_1_method_2_code (7 : Nat) (Option.some Jvm.ClassFile.FieldType.int), Jvm.Cond.methodLink "LyndonBench" (74 : Nat) ({ cls := "LyndonBench$Word", name := "addFourBytes", desc := "(I)V" } : Jvm.MethodName), Jvm.Cond.instanceMethod ({ cls := "LyndonBench$Word", name := "addFourBytes", desc := "(I)V" } : Jvm.MethodName), Jvm.Cond.selects "LyndonBench$Word" ({ cls := "LyndonBench$Word", name := "addFourBytes", desc := "(I)V" } : Jvm.MethodName) ({ cls := "LyndonBench$Word", name := "addFourBytes", desc := "(I)V" } : Jvm.MethodName), Jvm.Cond.code ({ cls := "LyndonBench$Word", name := "addFourBytes", desc := "(I)V" } : Jvm.MethodName) prog_7_method_6_code (3 : Nat) (Option.none : Option Jvm.ClassFile.FieldType), Jvm.Cond.methodLink "LyndonBenchLaw" (115 : Nat) ({ cls := "LyndonBench", name := "runScript", desc := "()I" } : Jvm.MethodName), Jvm.Cond.instanceMethod ({ cls := "LyndonBench", name := "runScript", desc := "()I" } : Jvm.MethodName)]
abbrev zl_2_1 : List Cond := [Jvm.Cond.selects "LyndonBench" ({ cls := "LyndonBench", name := "runScript", desc := "()I" } : Jvm.MethodName) ({ cls := "LyndonBench", name := "runScript", desc := "()I" } : Jvm.MethodName), Jvm.Cond.code ({ cls := "LyndonBench", name := "runScript", desc := "()I" } : Jvm.MethodName) prog_1_method_4_code (2 : Nat) (Option.some Jvm.ClassFile.FieldType.int), Jvm.Cond.methodLink "LyndonBench" (86 : Nat) ({ cls := "LyndonBench$Script", name := "run", desc := "()Z" } : Jvm.MethodName), Jvm.Cond.instanceMethod ({ cls := "LyndonBench$Script", name := "run", desc := "()Z" } : Jvm.MethodName), Jvm.Cond.selects "LyndonBench$Script" ({ cls := "LyndonBench$Script", name := "run", desc := "()Z" } : Jvm.MethodName) ({ cls := "LyndonBench$Script", name := "run", desc := "()Z" } : Jvm.MethodName), Jvm.Cond.code ({ cls := "LyndonBench$Script", name := "run", desc := "()Z" } : Jvm.MethodName) prog_5_method_2_code (3 : Nat) (Option.some Jvm.ClassFile.FieldType.boolean), Jvm.Cond.methodLink "LyndonBench$Script" (59 : Nat) ({ cls := "LyndonBench$Script", name := "runHead", desc := "()Z" } : Jvm.MethodName), Jvm.Cond.privateMethod ({ cls := "LyndonBench$Script", name := "runHead", desc := "()Z" } : Jvm.MethodName), Jvm.Cond.instanceMethod ({ cls := "LyndonBench$Script", name := "runHead", desc := "()Z" } : Jvm.MethodName), Jvm.Cond.code ({ cls := "LyndonBench$Script", name := "runHead", desc := "()Z" } : Jvm.MethodName) prog_5_method_3_code (1 : Nat) (Option.some Jvm.ClassFile.FieldType.boolean), Jvm.Cond.methodLink "LyndonBench$Script" (64 : Nat) ({ cls := "LyndonBench$Script", name := "readToken", desc := "()V" } : Jvm.MethodName), Jvm.Cond.privateMethod ({ cls := "LyndonBench$Script", name := "readToken", desc := "()V" } : Jvm.MethodName), Jvm.Cond.instanceMethod ({ cls := "LyndonBench$Script", name := "readToken", desc := "()V" } : Jvm.MethodName), Jvm.Cond.code ({ cls := "LyndonBench$Script", name := "readToken", desc := "()V" } : Jvm.MethodName) prog_5_method_21_code (1 : Nat) (Option.none : Option Jvm.ClassFile.FieldType), Jvm.Cond.methodLink "LyndonBench$Script" (146 : Nat) ({ cls := "LyndonBench$Word", name := "at", desc := "(I)I" } : Jvm.MethodName), Jvm.Cond.methodLink "LyndonBench$Script" (215 : Nat) ({ cls := "LyndonBench$Script", name := "kindOf", desc := "(I)I" } : Jvm.MethodName)]
abbrev zl_2_2 : List Cond := [Jvm.Cond.static ({ cls := "LyndonBench$Script", name := "kindOf", desc := "(I)I" } : Jvm.MethodName), Jvm.Cond.code ({ cls := "LyndonBench$Script", name := "kindOf", desc := "(I)I" } : Jvm.MethodName) prog_5_method_23_code (1 : Nat) (Option.some Jvm.ClassFile.FieldType.int), Jvm.Cond.methodLink "LyndonBench$Script" (218 : Nat) ({ cls := "LyndonBench$Script", name := "readNumber", desc := "()V" } : Jvm.MethodName), Jvm.Cond.privateMethod ({ cls := "LyndonBench$Script", name := "readNumber", desc := "()V" } : Jvm.MethodName), Jvm.Cond.instanceMethod ({ cls := "LyndonBench$Script", name := "readNumber", desc := "()V" } : Jvm.MethodName), Jvm.Cond.code ({ cls := "LyndonBench$Script", name := "readNumber", desc := "()V" } : Jvm.MethodName) prog_5_method_22_code (2 : Nat) (Option.none : Option Jvm.ClassFile.FieldType), Jvm.Cond.stringRef "LyndonBench$Script" (77 : Nat) "letters", Jvm.Cond.methodLink "LyndonBench$Script" (79 : Nat) ({ cls := "LyndonBench$Word", name := "equalsString", desc := "(IILjava/lang/String;)Z" } : Jvm.MethodName), Jvm.Cond.instanceMethod ({ cls := "LyndonBench$Word", name := "equalsString", desc := "(IILjava/lang/String;)Z" } : Jvm.MethodName), Jvm.Cond.selects "LyndonBench$Word" ({ cls := "LyndonBench$Word", name := "equalsString", desc := "(IILjava/lang/String;)Z" } : Jvm.MethodName) ({ cls := "LyndonBench$Word", name := "equalsString", desc := "(IILjava/lang/String;)Z" } : Jvm.MethodName), Jvm.Cond.code ({ cls := "LyndonBench$Word", name := "equalsString", desc := "(IILjava/lang/String;)Z" } : Jvm.MethodName) prog_7_method_16_code (5 : Nat) (Option.some Jvm.ClassFile.FieldType.boolean), Jvm.Cond.methodLink "LyndonBench$Script" (73 : Nat) ({ cls := "LyndonBench$Script", name := "fail", desc := "(I)Z" } : Jvm.MethodName), Jvm.Cond.privateMethod ({ cls := "LyndonBench$Script", name := "fail", desc := "(I)Z" } : Jvm.MethodName), Jvm.Cond.instanceMethod ({ cls := "LyndonBench$Script", name := "fail", desc := "(I)Z" } : Jvm.MethodName), Jvm.Cond.code ({ cls := "LyndonBench$Script", name := "fail", desc := "(I)Z" } : Jvm.MethodName) prog_5_method_20_code (2 : Nat) (Option.some Jvm.ClassFile.FieldType.boolean), Jvm.Cond.methodLink "LyndonBench$Script" (83 : Nat) ({ cls := "LyndonBench$Script", name := "expectNumber", desc := "(II)Z" } : Jvm.MethodName)]
abbrev zl_2_3 : List Cond := [Jvm.Cond.privateMethod ({ cls := "LyndonBench$Script", name := "expectNumber", desc := "(II)Z" } : Jvm.MethodName), Jvm.Cond.instanceMethod ({ cls := "LyndonBench$Script", name := "expectNumber", desc := "(II)Z" } : Jvm.MethodName), Jvm.Cond.code ({ cls := "LyndonBench$Script", name := "expectNumber", desc := "(II)Z" } : Jvm.MethodName) prog_5_method_18_code (3 : Nat) (Option.some Jvm.ClassFile.FieldType.boolean), Jvm.Cond.methodLink "LyndonBench$Script" (87 : Nat) ({ cls := "LyndonBench$Script", name := "expect", desc := "(I)Z" } : Jvm.MethodName), Jvm.Cond.privateMethod ({ cls := "LyndonBench$Script", name := "expect", desc := "(I)Z" } : Jvm.MethodName), Jvm.Cond.instanceMethod ({ cls := "LyndonBench$Script", name := "expect", desc := "(I)Z" } : Jvm.MethodName), Jvm.Cond.code ({ cls := "LyndonBench$Script", name := "expect", desc := "(I)Z" } : Jvm.MethodName) prog_5_method_17_code (2 : Nat) (Option.some Jvm.ClassFile.FieldType.boolean), Jvm.Cond.methodLink "LyndonBench$Script" (90 : Nat) ({ cls := "LyndonBench$State", name := "clear", desc := "(I)V" } : Jvm.MethodName), Jvm.Cond.constant "LyndonBench$Script" (63 : Nat) (1000000 : Int32), Jvm.Cond.methodLink "LyndonBench$Script" (67 : Nat) ({ cls := "LyndonBench$Script", name := "endRound", desc := "()Z" } : Jvm.MethodName), Jvm.Cond.privateMethod ({ cls := "LyndonBench$Script", name := "endRound", desc := "()Z" } : Jvm.MethodName), Jvm.Cond.instanceMethod ({ cls := "LyndonBench$Script", name := "endRound", desc := "()Z" } : Jvm.MethodName), Jvm.Cond.code ({ cls := "LyndonBench$Script", name := "endRound", desc := "()Z" } : Jvm.MethodName) prog_5_method_6_code (2 : Nat) (Option.some Jvm.ClassFile.FieldType.boolean), Jvm.Cond.methodLink "LyndonBench$Script" (70 : Nat) ({ cls := "LyndonBench$Script", name := "runCommand", desc := "()Z" } : Jvm.MethodName), Jvm.Cond.privateMethod ({ cls := "LyndonBench$Script", name := "runCommand", desc := "()Z" } : Jvm.MethodName), Jvm.Cond.instanceMethod ({ cls := "LyndonBench$Script", name := "runCommand", desc := "()Z" } : Jvm.MethodName)]
abbrev zl_2_4 : List Cond := [Jvm.Cond.code ({ cls := "LyndonBench$Script", name := "runCommand", desc := "()Z" } : Jvm.MethodName) prog_5_method_4_code (2 : Nat) (Option.some Jvm.ClassFile.FieldType.boolean), Jvm.Cond.methodLink "LyndonBench$Script" (93 : Nat) ({ cls := "LyndonBench$Command", name := "find", desc := "(LLyndonBench$Word;II)LLyndonBench$Command;" } : Jvm.MethodName), Jvm.Cond.static ({ cls := "LyndonBench$Command", name := "find", desc := "(LLyndonBench$Word;II)LLyndonBench$Command;" } : Jvm.MethodName), Jvm.Cond.code ({ cls := "LyndonBench$Command", name := "find", desc := "(LLyndonBench$Word;II)LLyndonBench$Command;" } : Jvm.MethodName) prog_3_method_4_code (7 : Nat) (Option.some (Jvm.ClassFile.FieldType.object "LyndonBench$Command")), Jvm.Cond.fieldLink "LyndonBench$Command" (63 : Nat) "LyndonBench$Command" "ALL" "[LLyndonBench$Command;", Jvm.Cond.laysStatic "LyndonBench$Command" "ALL" "[LLyndonBench$Command;", Jvm.Cond.methodLink "LyndonBench$Command" (66 : Nat) ({ cls := "LyndonBench$Word", name := "equalsString", desc := "(IILjava/lang/String;)Z" } : Jvm.MethodName), Jvm.Cond.fieldLink "LyndonBench$Script" (99 : Nat) "LyndonBench$Command" "REPEAT" "LLyndonBench$Command;", Jvm.Cond.laysStatic "LyndonBench$Command" "REPEAT" "LLyndonBench$Command;", Jvm.Cond.methodLink "LyndonBench$Script" (103 : Nat) ({ cls := "LyndonBench$Script", name := "openRepeat", desc := "()Z" } : Jvm.MethodName), Jvm.Cond.privateMethod ({ cls := "LyndonBench$Script", name := "openRepeat", desc := "()Z" } : Jvm.MethodName), Jvm.Cond.instanceMethod ({ cls := "LyndonBench$Script", name := "openRepeat", desc := "()Z" } : Jvm.MethodName), Jvm.Cond.code ({ cls := "LyndonBench$Script", name := "openRepeat", desc := "()Z" } : Jvm.MethodName) prog_5_method_5_code (1 : Nat) (Option.some Jvm.ClassFile.FieldType.boolean), Jvm.Cond.fieldLink "LyndonBench$Script" (106 : Nat) "LyndonBench$1" "$SwitchMap$LyndonBench$Command" "[I", Jvm.Cond.laysStatic "LyndonBench$1" "$SwitchMap$LyndonBench$Command" "[I", Jvm.Cond.methodLink "LyndonBench$Script" (111 : Nat) ({ cls := "LyndonBench$Command", name := "ordinal", desc := "()I" } : Jvm.MethodName)]
abbrev zl_2_5 : List Cond := [Jvm.Cond.sameMethod "LyndonBench$Command" "java/lang/Enum" "ordinal" "()I", Jvm.Cond.declares ({ cls := "java/lang/Enum", name := "ordinal", desc := "()I" } : Jvm.MethodName), Jvm.Cond.selects "LyndonBench$Command" ({ cls := "LyndonBench$Command", name := "ordinal", desc := "()I" } : Jvm.MethodName) ({ cls := "java/lang/Enum", name := "ordinal", desc := "()I" } : Jvm.MethodName), Jvm.Cond.instanceMethod ({ cls := "java/lang/Enum", name := "ordinal", desc := "()I" } : Jvm.MethodName), Jvm.Cond.code ({ cls := "java/lang/Enum", name := "ordinal", desc := "()I" } : Jvm.MethodName) prog_13_method_2_code (1 : Nat) (Option.some Jvm.ClassFile.FieldType.int), Jvm.Cond.methodLink "LyndonBench$Script" (115 : Nat) ({ cls := "LyndonBench$Script", name := "runText", desc := "(Z)Z" } : Jvm.MethodName), Jvm.Cond.privateMethod ({ cls := "LyndonBench$Script", name := "runText", desc := "(Z)Z" } : Jvm.MethodName), Jvm.Cond.instanceMethod ({ cls := "LyndonBench$Script", name := "runText", desc := "(Z)Z" } : Jvm.MethodName), Jvm.Cond.code ({ cls := "LyndonBench$Script", name := "runText", desc := "(Z)Z" } : Jvm.MethodName) prog_5_method_7_code (5 : Nat) (Option.some Jvm.ClassFile.FieldType.boolean), Jvm.Cond.methodLink "LyndonBench$Script" (150 : Nat) ({ cls := "LyndonBench$State", name := "isLetter", desc := "(I)Z" } : Jvm.MethodName), Jvm.Cond.instanceMethod ({ cls := "LyndonBench$State", name := "isLetter", desc := "(I)Z" } : Jvm.MethodName), Jvm.Cond.selects "LyndonBench$State" ({ cls := "LyndonBench$State", name := "isLetter", desc := "(I)Z" } : Jvm.MethodName) ({ cls := "LyndonBench$State", name := "isLetter", desc := "(I)Z" } : Jvm.MethodName), Jvm.Cond.code ({ cls := "LyndonBench$State", name := "isLetter", desc := "(I)Z" } : Jvm.MethodName) prog_6_method_4_code (2 : Nat) (Option.some Jvm.ClassFile.FieldType.boolean), Jvm.Cond.methodLink "LyndonBench$Script" (159 : Nat) ({ cls := "LyndonBench$Script", name := "expectEnd", desc := "(Z)Z" } : Jvm.MethodName), Jvm.Cond.privateMethod ({ cls := "LyndonBench$Script", name := "expectEnd", desc := "(Z)Z" } : Jvm.MethodName), Jvm.Cond.instanceMethod ({ cls := "LyndonBench$Script", name := "expectEnd", desc := "(Z)Z" } : Jvm.MethodName)]
abbrev zl_2_6 : List Cond := [Jvm.Cond.code ({ cls := "LyndonBench$Script", name := "expectEnd", desc := "(Z)Z" } : Jvm.MethodName) prog_5_method_19_code (2 : Nat) (Option.some Jvm.ClassFile.FieldType.boolean), Jvm.Cond.methodLink "LyndonBench$Script" (162 : Nat) ({ cls := "LyndonBench$Word", name := "shortenTo", desc := "(I)V" } : Jvm.MethodName), Jvm.Cond.instanceMethod ({ cls := "LyndonBench$Word", name := "shortenTo", desc := "(I)V" } : Jvm.MethodName), Jvm.Cond.selects "LyndonBench$Word" ({ cls := "LyndonBench$Word", name := "shortenTo", desc := "(I)V" } : Jvm.MethodName) ({ cls := "LyndonBench$Word", name := "shortenTo", desc := "(I)V" } : Jvm.MethodName), Jvm.Cond.code ({ cls := "LyndonBench$Word", name := "shortenTo", desc := "(I)V" } : Jvm.MethodName) prog_7_method_11_code (2 : Nat) (Option.none : Option Jvm.ClassFile.FieldType), Jvm.Cond.methodLink "LyndonBench$Script" (165 : Nat) ({ cls := "LyndonBench$Word", name := "addPart", desc := "(LLyndonBench$Word;II)V" } : Jvm.MethodName), Jvm.Cond.methodLink "LyndonBench$Script" (119 : Nat) ({ cls := "LyndonBench$Script", name := "runDrop", desc := "()Z" } : Jvm.MethodName), Jvm.Cond.privateMethod ({ cls := "LyndonBench$Script", name := "runDrop", desc := "()Z" } : Jvm.MethodName), Jvm.Cond.instanceMethod ({ cls := "LyndonBench$Script", name := "runDrop", desc := "()Z" } : Jvm.MethodName), Jvm.Cond.code ({ cls := "LyndonBench$Script", name := "runDrop", desc := "()Z" } : Jvm.MethodName) prog_5_method_8_code (1 : Nat) (Option.some Jvm.ClassFile.FieldType.boolean), Jvm.Cond.methodLink "LyndonBench$Script" (122 : Nat) ({ cls := "LyndonBench$Script", name := "runPart", desc := "()Z" } : Jvm.MethodName), Jvm.Cond.privateMethod ({ cls := "LyndonBench$Script", name := "runPart", desc := "()Z" } : Jvm.MethodName), Jvm.Cond.instanceMethod ({ cls := "LyndonBench$Script", name := "runPart", desc := "()Z" } : Jvm.MethodName), Jvm.Cond.code ({ cls := "LyndonBench$Script", name := "runPart", desc := "()Z" } : Jvm.MethodName) prog_5_method_9_code (2 : Nat) (Option.some Jvm.ClassFile.FieldType.boolean), Jvm.Cond.methodLink "LyndonBench$Script" (169 : Nat) ({ cls := "LyndonBench$Word", name := "cutTo", desc := "(II)V" } : Jvm.MethodName), Jvm.Cond.instanceMethod ({ cls := "LyndonBench$Word", name := "cutTo", desc := "(II)V" } : Jvm.MethodName)]
abbrev zl_2_7 : List Cond := [Jvm.Cond.selects "LyndonBench$Word" ({ cls := "LyndonBench$Word", name := "cutTo", desc := "(II)V" } : Jvm.MethodName) ({ cls := "LyndonBench$Word", name := "cutTo", desc := "(II)V" } : Jvm.MethodName), Jvm.Cond.code ({ cls := "LyndonBench$Word", name := "cutTo", desc := "(II)V" } : Jvm.MethodName) prog_7_method_12_code (4 : Nat) (Option.none : Option Jvm.ClassFile.FieldType), Jvm.Cond.methodLink "LyndonBench$Word" (50 : Nat) ({ cls := "LyndonBench$Word", name := "put", desc := "(II)V" } : Jvm.MethodName), Jvm.Cond.privateMethod ({ cls := "LyndonBench$Word", name := "put", desc := "(II)V" } : Jvm.MethodName), Jvm.Cond.instanceMethod ({ cls := "LyndonBench$Word", name := "put", desc := "(II)V" } : Jvm.MethodName), Jvm.Cond.code ({ cls := "LyndonBench$Word", name := "put", desc := "(II)V" } : Jvm.MethodName) prog_7_method_3_code (3 : Nat) (Option.none : Option Jvm.ClassFile.FieldType), Jvm.Cond.methodLink "LyndonBench$Word" (54 : Nat) ({ cls := "LyndonBench$Word", name := "shortenTo", desc := "(I)V" } : Jvm.MethodName), Jvm.Cond.methodLink "LyndonBench$Script" (125 : Nat) ({ cls := "LyndonBench$Script", name := "runRotate", desc := "()Z" } : Jvm.MethodName), Jvm.Cond.privateMethod ({ cls := "LyndonBench$Script", name := "runRotate", desc := "()Z" } : Jvm.MethodName), Jvm.Cond.instanceMethod ({ cls := "LyndonBench$Script", name := "runRotate", desc := "()Z" } : Jvm.MethodName), Jvm.Cond.code ({ cls := "LyndonBench$Script", name := "runRotate", desc := "()Z" } : Jvm.MethodName) prog_5_method_10_code (1 : Nat) (Option.some Jvm.ClassFile.FieldType.boolean), Jvm.Cond.methodLink "LyndonBench$Script" (173 : Nat) ({ cls := "LyndonBench$Word", name := "turn", desc := "(I)V" } : Jvm.MethodName), Jvm.Cond.instanceMethod ({ cls := "LyndonBench$Word", name := "turn", desc := "(I)V" } : Jvm.MethodName), Jvm.Cond.selects "LyndonBench$Word" ({ cls := "LyndonBench$Word", name := "turn", desc := "(I)V" } : Jvm.MethodName) ({ cls := "LyndonBench$Word", name := "turn", desc := "(I)V" } : Jvm.MethodName), Jvm.Cond.code ({ cls := "LyndonBench$Word", name := "turn", desc := "(I)V" } : Jvm.MethodName) prog_7_method_14_code (2 : Nat) (Option.none : Option Jvm.ClassFile.FieldType), Jvm.Cond.methodLink "LyndonBench$Word" (57 : Nat) ({ cls := "LyndonBench$Word", name := "mirror", desc := "(II)V" } : Jvm.MethodName)]
abbrev zl_2_8 : List Cond := [Jvm.Cond.instanceMethod ({ cls := "LyndonBench$Word", name := "mirror", desc := "(II)V" } : Jvm.MethodName), Jvm.Cond.selects "LyndonBench$Word" ({ cls := "LyndonBench$Word", name := "mirror", desc := "(II)V" } : Jvm.MethodName) ({ cls := "LyndonBench$Word", name := "mirror", desc := "(II)V" } : Jvm.MethodName), Jvm.Cond.code ({ cls := "LyndonBench$Word", name := "mirror", desc := "(II)V" } : Jvm.MethodName) prog_7_method_13_code (6 : Nat) (Option.none : Option Jvm.ClassFile.FieldType), Jvm.Cond.methodLink "LyndonBench$Script" (128 : Nat) ({ cls := "LyndonBench$Script", name := "runReverse", desc := "()Z" } : Jvm.MethodName), Jvm.Cond.privateMethod ({ cls := "LyndonBench$Script", name := "runReverse", desc := "()Z" } : Jvm.MethodName), Jvm.Cond.instanceMethod ({ cls := "LyndonBench$Script", name := "runReverse", desc := "()Z" } : Jvm.MethodName), Jvm.Cond.code ({ cls := "LyndonBench$Script", name := "runReverse", desc := "()Z" } : Jvm.MethodName) prog_5_method_11_code (1 : Nat) (Option.some Jvm.ClassFile.FieldType.boolean), Jvm.Cond.methodLink "LyndonBench$Script" (176 : Nat) ({ cls := "LyndonBench$Word", name := "mirror", desc := "(II)V" } : Jvm.MethodName), Jvm.Cond.methodLink "LyndonBench$Script" (131 : Nat) ({ cls := "LyndonBench$Script", name := "runLeast", desc := "()Z" } : Jvm.MethodName), Jvm.Cond.privateMethod ({ cls := "LyndonBench$Script", name := "runLeast", desc := "()Z" } : Jvm.MethodName), Jvm.Cond.instanceMethod ({ cls := "LyndonBench$Script", name := "runLeast", desc := "()Z" } : Jvm.MethodName), Jvm.Cond.code ({ cls := "LyndonBench$Script", name := "runLeast", desc := "()Z" } : Jvm.MethodName) prog_5_method_12_code (1 : Nat) (Option.some Jvm.ClassFile.FieldType.boolean), Jvm.Cond.methodLink "LyndonBench$Script" (179 : Nat) ({ cls := "LyndonBench$Word", name := "leastTurn", desc := "()I" } : Jvm.MethodName), Jvm.Cond.instanceMethod ({ cls := "LyndonBench$Word", name := "leastTurn", desc := "()I" } : Jvm.MethodName), Jvm.Cond.selects "LyndonBench$Word" ({ cls := "LyndonBench$Word", name := "leastTurn", desc := "()I" } : Jvm.MethodName) ({ cls := "LyndonBench$Word", name := "leastTurn", desc := "()I" } : Jvm.MethodName), Jvm.Cond.code ({ cls := "LyndonBench$Word", name := "leastTurn", desc := "()I" } : Jvm.MethodName) prog_7_method_31_code (7 : Nat) (Option.some Jvm.ClassFile.FieldType.int)]
abbrev zl_2_9 : List Cond := [Jvm.Cond.methodLink "LyndonBench$Word" (77 : Nat) ({ cls := "LyndonBench$Word", name := "atAround", desc := "(I)I" } : Jvm.MethodName), Jvm.Cond.privateMethod ({ cls := "LyndonBench$Word", name := "atAround", desc := "(I)I" } : Jvm.MethodName), Jvm.Cond.instanceMethod ({ cls := "LyndonBench$Word", name := "atAround", desc := "(I)I" } : Jvm.MethodName), Jvm.Cond.code ({ cls := "LyndonBench$Word", name := "atAround", desc := "(I)I" } : Jvm.MethodName) prog_7_method_32_code (2 : Nat) (Option.some Jvm.ClassFile.FieldType.int), Jvm.Cond.methodLink "LyndonBench$Script" (134 : Nat) ({ cls := "LyndonBench$Script", name := "runNext", desc := "()Z" } : Jvm.MethodName), Jvm.Cond.privateMethod ({ cls := "LyndonBench$Script", name := "runNext", desc := "()Z" } : Jvm.MethodName), Jvm.Cond.instanceMethod ({ cls := "LyndonBench$Script", name := "runNext", desc := "()Z" } : Jvm.MethodName), Jvm.Cond.code ({ cls := "LyndonBench$Script", name := "runNext", desc := "()Z" } : Jvm.MethodName) prog_5_method_13_code (1 : Nat) (Option.some Jvm.ClassFile.FieldType.boolean), Jvm.Cond.methodLink "LyndonBench$Script" (182 : Nat) ({ cls := "LyndonBench$State", name := "hasNext", desc := "(I)Z" } : Jvm.MethodName), Jvm.Cond.instanceMethod ({ cls := "LyndonBench$State", name := "hasNext", desc := "(I)Z" } : Jvm.MethodName), Jvm.Cond.selects "LyndonBench$State" ({ cls := "LyndonBench$State", name := "hasNext", desc := "(I)Z" } : Jvm.MethodName) ({ cls := "LyndonBench$State", name := "hasNext", desc := "(I)Z" } : Jvm.MethodName), Jvm.Cond.code ({ cls := "LyndonBench$State", name := "hasNext", desc := "(I)Z" } : Jvm.MethodName) prog_6_method_14_code (2 : Nat) (Option.some Jvm.ClassFile.FieldType.boolean), Jvm.Cond.methodLink "LyndonBench$State" (64 : Nat) ({ cls := "LyndonBench$Word", name := "isOneFactor", desc := "()Z" } : Jvm.MethodName), Jvm.Cond.instanceMethod ({ cls := "LyndonBench$Word", name := "isOneFactor", desc := "()Z" } : Jvm.MethodName), Jvm.Cond.selects "LyndonBench$Word" ({ cls := "LyndonBench$Word", name := "isOneFactor", desc := "()Z" } : Jvm.MethodName) ({ cls := "LyndonBench$Word", name := "isOneFactor", desc := "()Z" } : Jvm.MethodName), Jvm.Cond.code ({ cls := "LyndonBench$Word", name := "isOneFactor", desc := "()Z" } : Jvm.MethodName) prog_7_method_21_code (1 : Nat) (Option.some Jvm.ClassFile.FieldType.boolean)]
abbrev zl_2_10 : List Cond := [Jvm.Cond.methodLink "LyndonBench$Word" (64 : Nat) ({ cls := "LyndonBench$Word", name := "lyndonEnd", desc := "(I)I" } : Jvm.MethodName), Jvm.Cond.instanceMethod ({ cls := "LyndonBench$Word", name := "lyndonEnd", desc := "(I)I" } : Jvm.MethodName), Jvm.Cond.selects "LyndonBench$Word" ({ cls := "LyndonBench$Word", name := "lyndonEnd", desc := "(I)I" } : Jvm.MethodName) ({ cls := "LyndonBench$Word", name := "lyndonEnd", desc := "(I)I" } : Jvm.MethodName), Jvm.Cond.code ({ cls := "LyndonBench$Word", name := "lyndonEnd", desc := "(I)I" } : Jvm.MethodName) prog_7_method_18_code (4 : Nat) (Option.some Jvm.ClassFile.FieldType.int), Jvm.Cond.methodLink "LyndonBench$State" (68 : Nat) ({ cls := "LyndonBench$Word", name := "at", desc := "(I)I" } : Jvm.MethodName), Jvm.Cond.methodLink "LyndonBench$State" (71 : Nat) ({ cls := "LyndonBench$State", name := "greatestLetter", desc := "()I" } : Jvm.MethodName), Jvm.Cond.instanceMethod ({ cls := "LyndonBench$State", name := "greatestLetter", desc := "()I" } : Jvm.MethodName), Jvm.Cond.selects "LyndonBench$State" ({ cls := "LyndonBench$State", name := "greatestLetter", desc := "()I" } : Jvm.MethodName) ({ cls := "LyndonBench$State", name := "greatestLetter", desc := "()I" } : Jvm.MethodName), Jvm.Cond.code ({ cls := "LyndonBench$State", name := "greatestLetter", desc := "()I" } : Jvm.MethodName) prog_6_method_5_code (1 : Nat) (Option.some Jvm.ClassFile.FieldType.int), Jvm.Cond.methodLink "LyndonBench$Script" (185 : Nat) ({ cls := "LyndonBench$State", name := "greatestLetter", desc := "()I" } : Jvm.MethodName), Jvm.Cond.methodLink "LyndonBench$Script" (188 : Nat) ({ cls := "LyndonBench$Word", name := "stepLyndon", desc := "(II)V" } : Jvm.MethodName), Jvm.Cond.instanceMethod ({ cls := "LyndonBench$Word", name := "stepLyndon", desc := "(II)V" } : Jvm.MethodName), Jvm.Cond.selects "LyndonBench$Word" ({ cls := "LyndonBench$Word", name := "stepLyndon", desc := "(II)V" } : Jvm.MethodName) ({ cls := "LyndonBench$Word", name := "stepLyndon", desc := "(II)V" } : Jvm.MethodName), Jvm.Cond.code ({ cls := "LyndonBench$Word", name := "stepLyndon", desc := "(II)V" } : Jvm.MethodName) prog_7_method_34_code (6 : Nat) (Option.none : Option Jvm.ClassFile.FieldType), Jvm.Cond.methodLink "LyndonBench$Script" (137 : Nat) ({ cls := "LyndonBench$Script", name := "runKeep", desc := "()Z" } : Jvm.MethodName), Jvm.Cond.privateMethod ({ cls := "LyndonBench$Script", name := "runKeep", desc := "()Z" } : Jvm.MethodName)]
abbrev zl_2_11 : List Cond := [Jvm.Cond.instanceMethod ({ cls := "LyndonBench$Script", name := "runKeep", desc := "()Z" } : Jvm.MethodName), Jvm.Cond.code ({ cls := "LyndonBench$Script", name := "runKeep", desc := "()Z" } : Jvm.MethodName) prog_5_method_14_code (3 : Nat) (Option.some Jvm.ClassFile.FieldType.boolean), Jvm.Cond.methodLink "LyndonBench$Script" (191 : Nat) ({ cls := "LyndonBench$Word", name := "beginOfFactor", desc := "(I)I" } : Jvm.MethodName), Jvm.Cond.instanceMethod ({ cls := "LyndonBench$Word", name := "beginOfFactor", desc := "(I)I" } : Jvm.MethodName), Jvm.Cond.selects "LyndonBench$Word" ({ cls := "LyndonBench$Word", name := "beginOfFactor", desc := "(I)I" } : Jvm.MethodName) ({ cls := "LyndonBench$Word", name := "beginOfFactor", desc := "(I)I" } : Jvm.MethodName), Jvm.Cond.code ({ cls := "LyndonBench$Word", name := "beginOfFactor", desc := "(I)I" } : Jvm.MethodName) prog_7_method_22_code (6 : Nat) (Option.some Jvm.ClassFile.FieldType.int), Jvm.Cond.methodLink "LyndonBench$Word" (67 : Nat) ({ cls := "LyndonBench$Word", name := "factorEnd", desc := "(II)I" } : Jvm.MethodName), Jvm.Cond.instanceMethod ({ cls := "LyndonBench$Word", name := "factorEnd", desc := "(II)I" } : Jvm.MethodName), Jvm.Cond.selects "LyndonBench$Word" ({ cls := "LyndonBench$Word", name := "factorEnd", desc := "(II)I" } : Jvm.MethodName) ({ cls := "LyndonBench$Word", name := "factorEnd", desc := "(II)I" } : Jvm.MethodName), Jvm.Cond.code ({ cls := "LyndonBench$Word", name := "factorEnd", desc := "(II)I" } : Jvm.MethodName) prog_7_method_19_code (4 : Nat) (Option.some Jvm.ClassFile.FieldType.int), Jvm.Cond.methodLink "LyndonBench$Word" (60 : Nat) ({ cls := "LyndonBench$Word", name := "order", desc := "(IILLyndonBench$Word;II)I" } : Jvm.MethodName), Jvm.Cond.instanceMethod ({ cls := "LyndonBench$Word", name := "order", desc := "(IILLyndonBench$Word;II)I" } : Jvm.MethodName), Jvm.Cond.selects "LyndonBench$Word" ({ cls := "LyndonBench$Word", name := "order", desc := "(IILLyndonBench$Word;II)I" } : Jvm.MethodName) ({ cls := "LyndonBench$Word", name := "order", desc := "(IILLyndonBench$Word;II)I" } : Jvm.MethodName), Jvm.Cond.code ({ cls := "LyndonBench$Word", name := "order", desc := "(IILLyndonBench$Word;II)I" } : Jvm.MethodName) prog_7_method_17_code (11 : Nat) (Option.some Jvm.ClassFile.FieldType.int), Jvm.Cond.methodLink "LyndonBench$Script" (194 : Nat) ({ cls := "LyndonBench$Word", name := "lyndonEnd", desc := "(I)I" } : Jvm.MethodName), Jvm.Cond.methodLink "LyndonBench$Script" (197 : Nat) ({ cls := "LyndonBench$State", name := "canKeep", desc := "(I)Z" } : Jvm.MethodName)]
abbrev zl_2_12 : List Cond := [Jvm.Cond.instanceMethod ({ cls := "LyndonBench$State", name := "canKeep", desc := "(I)Z" } : Jvm.MethodName), Jvm.Cond.selects "LyndonBench$State" ({ cls := "LyndonBench$State", name := "canKeep", desc := "(I)Z" } : Jvm.MethodName) ({ cls := "LyndonBench$State", name := "canKeep", desc := "(I)Z" } : Jvm.MethodName), Jvm.Cond.code ({ cls := "LyndonBench$State", name := "canKeep", desc := "(I)Z" } : Jvm.MethodName) prog_6_method_8_code (2 : Nat) (Option.some Jvm.ClassFile.FieldType.boolean), Jvm.Cond.methodLink "LyndonBench$Script" (200 : Nat) ({ cls := "LyndonBench$State", name := "keep", desc := "(LLyndonBench$Word;II)V" } : Jvm.MethodName), Jvm.Cond.methodLink "LyndonBench$Script" (140 : Nat) ({ cls := "LyndonBench$Script", name := "runRemove", desc := "()Z" } : Jvm.MethodName), Jvm.Cond.privateMethod ({ cls := "LyndonBench$Script", name := "runRemove", desc := "()Z" } : Jvm.MethodName), Jvm.Cond.instanceMethod ({ cls := "LyndonBench$Script", name := "runRemove", desc := "()Z" } : Jvm.MethodName), Jvm.Cond.code ({ cls := "LyndonBench$Script", name := "runRemove", desc := "()Z" } : Jvm.MethodName) prog_5_method_15_code (1 : Nat) (Option.some Jvm.ClassFile.FieldType.boolean), Jvm.Cond.methodLink "LyndonBench$Script" (206 : Nat) ({ cls := "LyndonBench$State", name := "takeFromShelf", desc := "(I)V" } : Jvm.MethodName), Jvm.Cond.instanceMethod ({ cls := "LyndonBench$State", name := "takeFromShelf", desc := "(I)V" } : Jvm.MethodName), Jvm.Cond.selects "LyndonBench$State" ({ cls := "LyndonBench$State", name := "takeFromShelf", desc := "(I)V" } : Jvm.MethodName) ({ cls := "LyndonBench$State", name := "takeFromShelf", desc := "(I)V" } : Jvm.MethodName), Jvm.Cond.code ({ cls := "LyndonBench$State", name := "takeFromShelf", desc := "(I)V" } : Jvm.MethodName) prog_6_method_10_code (5 : Nat) (Option.none : Option Jvm.ClassFile.FieldType), Jvm.Cond.methodLink "LyndonBench$State" (38 : Nat) ({ cls := "LyndonBench$State", name := "keptAt", desc := "(I)LLyndonBench$Word;" } : Jvm.MethodName), Jvm.Cond.instanceMethod ({ cls := "LyndonBench$State", name := "keptAt", desc := "(I)LLyndonBench$Word;" } : Jvm.MethodName), Jvm.Cond.selects "LyndonBench$State" ({ cls := "LyndonBench$State", name := "keptAt", desc := "(I)LLyndonBench$Word;" } : Jvm.MethodName) ({ cls := "LyndonBench$State", name := "keptAt", desc := "(I)LLyndonBench$Word;" } : Jvm.MethodName), Jvm.Cond.code ({ cls := "LyndonBench$State", name := "keptAt", desc := "(I)LLyndonBench$Word;" } : Jvm.MethodName) prog_6_method_7_code (2 : Nat) (Option.some (Jvm.ClassFile.FieldType.object "LyndonBench$Word"))]
abbrev zl_2_13 : List Cond := [Jvm.Cond.methodLink "LyndonBench$State" (34 : Nat) ({ cls := "LyndonBench$Word", name := "copyFrom", desc := "(LLyndonBench$Word;)V" } : Jvm.MethodName), Jvm.Cond.instanceMethod ({ cls := "LyndonBench$Word", name := "copyFrom", desc := "(LLyndonBench$Word;)V" } : Jvm.MethodName), Jvm.Cond.selects "LyndonBench$Word" ({ cls := "LyndonBench$Word", name := "copyFrom", desc := "(LLyndonBench$Word;)V" } : Jvm.MethodName) ({ cls := "LyndonBench$Word", name := "copyFrom", desc := "(LLyndonBench$Word;)V" } : Jvm.MethodName), Jvm.Cond.code ({ cls := "LyndonBench$Word", name := "copyFrom", desc := "(LLyndonBench$Word;)V" } : Jvm.MethodName) prog_7_method_10_code (2 : Nat) (Option.none : Option Jvm.ClassFile.FieldType), Jvm.Cond.methodLink "LyndonBench$Word" (43 : Nat) ({ cls := "LyndonBench$Word", name := "clear", desc := "()V" } : Jvm.MethodName), Jvm.Cond.methodLink "LyndonBench$Word" (46 : Nat) ({ cls := "LyndonBench$Word", name := "addPart", desc := "(LLyndonBench$Word;II)V" } : Jvm.MethodName), Jvm.Cond.methodLink "LyndonBench$Script" (143 : Nat) ({ cls := "LyndonBench$Script", name := "runJoin", desc := "()Z" } : Jvm.MethodName), Jvm.Cond.privateMethod ({ cls := "LyndonBench$Script", name := "runJoin", desc := "()Z" } : Jvm.MethodName), Jvm.Cond.instanceMethod ({ cls := "LyndonBench$Script", name := "runJoin", desc := "()Z" } : Jvm.MethodName), Jvm.Cond.code ({ cls := "LyndonBench$Script", name := "runJoin", desc := "()Z" } : Jvm.MethodName) prog_5_method_16_code (1 : Nat) (Option.some Jvm.ClassFile.FieldType.boolean), Jvm.Cond.methodLink "LyndonBench$Script" (209 : Nat) ({ cls := "LyndonBench$State", name := "canJoin", desc := "()Z" } : Jvm.MethodName), Jvm.Cond.instanceMethod ({ cls := "LyndonBench$State", name := "canJoin", desc := "()Z" } : Jvm.MethodName), Jvm.Cond.selects "LyndonBench$State" ({ cls := "LyndonBench$State", name := "canJoin", desc := "()Z" } : Jvm.MethodName) ({ cls := "LyndonBench$State", name := "canJoin", desc := "()Z" } : Jvm.MethodName), Jvm.Cond.code ({ cls := "LyndonBench$State", name := "canJoin", desc := "()Z" } : Jvm.MethodName) prog_6_method_12_code (4 : Nat) (Option.some Jvm.ClassFile.FieldType.boolean), Jvm.Cond.methodLink "LyndonBench$Script" (212 : Nat) ({ cls := "LyndonBench$State", name := "joinShelf", desc := "()V" } : Jvm.MethodName), Jvm.Cond.instanceMethod ({ cls := "LyndonBench$State", name := "joinShelf", desc := "()V" } : Jvm.MethodName)]
abbrev zl_2_14 : List Cond := [Jvm.Cond.selects "LyndonBench$State" ({ cls := "LyndonBench$State", name := "joinShelf", desc := "()V" } : Jvm.MethodName) ({ cls := "LyndonBench$State", name := "joinShelf", desc := "()V" } : Jvm.MethodName), Jvm.Cond.code ({ cls := "LyndonBench$State", name := "joinShelf", desc := "()V" } : Jvm.MethodName) prog_6_method_13_code (5 : Nat) (Option.none : Option Jvm.ClassFile.FieldType), Jvm.Cond.methodLink "LyndonBench$State" (60 : Nat) ({ cls := "LyndonBench$State", name := "greatestOfShelf", desc := "(I)I" } : Jvm.MethodName), Jvm.Cond.instanceMethod ({ cls := "LyndonBench$State", name := "greatestOfShelf", desc := "(I)I" } : Jvm.MethodName), Jvm.Cond.selects "LyndonBench$State" ({ cls := "LyndonBench$State", name := "greatestOfShelf", desc := "(I)I" } : Jvm.MethodName) ({ cls := "LyndonBench$State", name := "greatestOfShelf", desc := "(I)I" } : Jvm.MethodName), Jvm.Cond.code ({ cls := "LyndonBench$State", name := "greatestOfShelf", desc := "(I)I" } : Jvm.MethodName) prog_6_method_11_code (6 : Nat) (Option.some Jvm.ClassFile.FieldType.int), Jvm.Cond.methodLink "LyndonBench$State" (56 : Nat) ({ cls := "LyndonBench$Word", name := "order", desc := "(IILLyndonBench$Word;II)I" } : Jvm.MethodName), Jvm.Cond.methodLink "LyndonBench" (90 : Nat) ({ cls := "LyndonBench$Word", name := "clear", desc := "()V" } : Jvm.MethodName), Jvm.Cond.methodLink "LyndonBench" (92 : Nat) ({ cls := "LyndonBench$History", name := "remember", desc := "(LLyndonBench$State;)V" } : Jvm.MethodName), Jvm.Cond.instanceMethod ({ cls := "LyndonBench$History", name := "remember", desc := "(LLyndonBench$State;)V" } : Jvm.MethodName), Jvm.Cond.selects "LyndonBench$History" ({ cls := "LyndonBench$History", name := "remember", desc := "(LLyndonBench$State;)V" } : Jvm.MethodName) ({ cls := "LyndonBench$History", name := "remember", desc := "(LLyndonBench$State;)V" } : Jvm.MethodName), Jvm.Cond.code ({ cls := "LyndonBench$History", name := "remember", desc := "(LLyndonBench$State;)V" } : Jvm.MethodName) prog_4_method_2_code (2 : Nat) (Option.none : Option Jvm.ClassFile.FieldType), Jvm.Cond.methodLink "LyndonBench$History" (22 : Nat) ({ cls := "LyndonBench$History", name := "forgetOldest", desc := "()V" } : Jvm.MethodName), Jvm.Cond.privateMethod ({ cls := "LyndonBench$History", name := "forgetOldest", desc := "()V" } : Jvm.MethodName), Jvm.Cond.instanceMethod ({ cls := "LyndonBench$History", name := "forgetOldest", desc := "()V" } : Jvm.MethodName), Jvm.Cond.code ({ cls := "LyndonBench$History", name := "forgetOldest", desc := "()V" } : Jvm.MethodName) prog_4_method_3_code (3 : Nat) (Option.none : Option Jvm.ClassFile.FieldType)]
set_option maxRecDepth 100000 in
theorem ztq_2 : tables_1_2 = zl_2_0 ++ (zl_2_1 ++ (zl_2_2 ++ (zl_2_3 ++ (zl_2_4 ++ (zl_2_5 ++ (zl_2_6 ++ (zl_2_7 ++ (zl_2_8 ++ (zl_2_9 ++ (zl_2_10 ++ (zl_2_11 ++ (zl_2_12 ++ (zl_2_13 ++ (zl_2_14)))))))))))))) := rfl
theorem zls_2_0 : ∀ w ∈ zl_2_0, w ∈ tables_1_2 := fun w hw => by
  rw [ztq_2]
  exact List.mem_append_left _ hw
def zlt_2_0 := zu_16 zls_2_0
theorem zls_2_1 : ∀ w ∈ zl_2_1, w ∈ tables_1_2 := fun w hw => by
  rw [ztq_2]
  exact List.mem_append_right _ (List.mem_append_left _ hw)
def zlt_2_1 := zu_16 zls_2_1
theorem zls_2_2 : ∀ w ∈ zl_2_2, w ∈ tables_1_2 := fun w hw => by
  rw [ztq_2]
  exact List.mem_append_right _ (List.mem_append_right _ (List.mem_append_left _ hw))
def zlt_2_2 := zu_16 zls_2_2
theorem zls_2_3 : ∀ w ∈ zl_2_3, w ∈ tables_1_2 := fun w hw => by
  rw [ztq_2]
  exact List.mem_append_right _ (List.mem_append_right _ (List.mem_append_right _ (List.mem_append_left _ hw)))
def zlt_2_3 := zu_16 zls_2_3
theorem zls_2_4 : ∀ w ∈ zl_2_4, w ∈ tables_1_2 := fun w hw => by
  rw [ztq_2]
  exact List.mem_append_right _ (List.mem_append_right _ (List.mem_append_right _ (List.mem_append_right _ (List.mem_append_left _ hw))))
def zlt_2_4 := zu_16 zls_2_4
theorem zls_2_5 : ∀ w ∈ zl_2_5, w ∈ tables_1_2 := fun w hw => by
  rw [ztq_2]
  exact List.mem_append_right _ (List.mem_append_right _ (List.mem_append_right _ (List.mem_append_right _ (List.mem_append_right _ (List.mem_append_left _ hw)))))
def zlt_2_5 := zu_16 zls_2_5
theorem zls_2_6 : ∀ w ∈ zl_2_6, w ∈ tables_1_2 := fun w hw => by
  rw [ztq_2]
  exact List.mem_append_right _ (List.mem_append_right _ (List.mem_append_right _ (List.mem_append_right _ (List.mem_append_right _ (List.mem_append_right _ (List.mem_append_left _ hw))))))
def zlt_2_6 := zu_16 zls_2_6
theorem zls_2_7 : ∀ w ∈ zl_2_7, w ∈ tables_1_2 := fun w hw => by
  rw [ztq_2]
  exact List.mem_append_right _ (List.mem_append_right _ (List.mem_append_right _ (List.mem_append_right _ (List.mem_append_right _ (List.mem_append_right _ (List.mem_append_right _ (List.mem_append_left _ hw)))))))
def zlt_2_7 := zu_16 zls_2_7
theorem zls_2_8 : ∀ w ∈ zl_2_8, w ∈ tables_1_2 := fun w hw => by
  rw [ztq_2]
  exact List.mem_append_right _ (List.mem_append_right _ (List.mem_append_right _ (List.mem_append_right _ (List.mem_append_right _ (List.mem_append_right _ (List.mem_append_right _ (List.mem_append_right _ (List.mem_append_left _ hw))))))))
def zlt_2_8 := zu_16 zls_2_8
theorem zls_2_9 : ∀ w ∈ zl_2_9, w ∈ tables_1_2 := fun w hw => by
  rw [ztq_2]
  exact List.mem_append_right _ (List.mem_append_right _ (List.mem_append_right _ (List.mem_append_right _ (List.mem_append_right _ (List.mem_append_right _ (List.mem_append_right _ (List.mem_append_right _ (List.mem_append_right _ (List.mem_append_left _ hw)))))))))
def zlt_2_9 := zu_16 zls_2_9
theorem zls_2_10 : ∀ w ∈ zl_2_10, w ∈ tables_1_2 := fun w hw => by
  rw [ztq_2]
  exact List.mem_append_right _ (List.mem_append_right _ (List.mem_append_right _ (List.mem_append_right _ (List.mem_append_right _ (List.mem_append_right _ (List.mem_append_right _ (List.mem_append_right _ (List.mem_append_right _ (List.mem_append_right _ (List.mem_append_left _ hw))))))))))
def zlt_2_10 := zu_16 zls_2_10
theorem zls_2_11 : ∀ w ∈ zl_2_11, w ∈ tables_1_2 := fun w hw => by
  rw [ztq_2]
  exact List.mem_append_right _ (List.mem_append_right _ (List.mem_append_right _ (List.mem_append_right _ (List.mem_append_right _ (List.mem_append_right _ (List.mem_append_right _ (List.mem_append_right _ (List.mem_append_right _ (List.mem_append_right _ (List.mem_append_right _ (List.mem_append_left _ hw)))))))))))
def zlt_2_11 := zu_16 zls_2_11
theorem zls_2_12 : ∀ w ∈ zl_2_12, w ∈ tables_1_2 := fun w hw => by
  rw [ztq_2]
  exact List.mem_append_right _ (List.mem_append_right _ (List.mem_append_right _ (List.mem_append_right _ (List.mem_append_right _ (List.mem_append_right _ (List.mem_append_right _ (List.mem_append_right _ (List.mem_append_right _ (List.mem_append_right _ (List.mem_append_right _ (List.mem_append_right _ (List.mem_append_left _ hw))))))))))))
def zlt_2_12 := zu_16 zls_2_12
theorem zls_2_13 : ∀ w ∈ zl_2_13, w ∈ tables_1_2 := fun w hw => by
  rw [ztq_2]
  exact List.mem_append_right _ (List.mem_append_right _ (List.mem_append_right _ (List.mem_append_right _ (List.mem_append_right _ (List.mem_append_right _ (List.mem_append_right _ (List.mem_append_right _ (List.mem_append_right _ (List.mem_append_right _ (List.mem_append_right _ (List.mem_append_right _ (List.mem_append_right _ (List.mem_append_left _ hw)))))))))))))
def zlt_2_13 := zu_16 zls_2_13
theorem zls_2_14 : ∀ w ∈ zl_2_14, w ∈ tables_1_2 := fun w hw => by
  rw [ztq_2]
  exact List.mem_append_right _ (List.mem_append_right _ (List.mem_append_right _ (List.mem_append_right _ (List.mem_append_right _ (List.mem_append_right _ (List.mem_append_right _ (List.mem_append_right _ (List.mem_append_right _ (List.mem_append_right _ (List.mem_append_right _ (List.mem_append_right _ (List.mem_append_right _ (List.mem_append_right _ (hw))))))))))))))
def zlt_2_14 := zu_16 zls_2_14
theorem z_mt3 {w : Cond} (h : w ∈ tables_1_3) (hg : goodWord w = true) : w ∈ za_Ts := List.mem_filter.mpr ⟨List.mem_append_right _ (show w ∈ tables_1 from List.mem_append_right _ (List.mem_append_right _ (List.mem_append_left _ (h)))), hg⟩
abbrev zl_3_0 : List Cond := [Jvm.Cond.methodLink "LyndonBench$History" (25 : Nat) ({ cls := "LyndonBench$State", name := "copyFrom", desc := "(LLyndonBench$State;)V" } : Jvm.MethodName), Jvm.Cond.instanceMethod ({ cls := "LyndonBench$State", name := "copyFrom", desc := "(LLyndonBench$State;)V" } : Jvm.MethodName), Jvm.Cond.selects "LyndonBench$State" ({ cls := "LyndonBench$State", name := "copyFrom", desc := "(LLyndonBench$State;)V" } : Jvm.MethodName) ({ cls := "LyndonBench$State", name := "copyFrom", desc := "(LLyndonBench$State;)V" } : Jvm.MethodName), Jvm.Cond.code ({ cls := "LyndonBench$State", name := "copyFrom", desc := "(LLyndonBench$State;)V" } : Jvm.MethodName) prog_6_method_3_code (4 : Nat) (Option.none : Option Jvm.ClassFile.FieldType), Jvm.Cond.methodLink "LyndonBench$State" (45 : Nat) ({ cls := "LyndonBench$State", name := "keep", desc := "(LLyndonBench$Word;II)V" } : Jvm.MethodName), Jvm.Cond.methodLink "LyndonBench" (99 : Nat) ({ cls := "LyndonBench$State", name := "copyFrom", desc := "(LLyndonBench$State;)V" } : Jvm.MethodName), Jvm.Cond.methodLink "LyndonBenchLaw" (139 : Nat) ({ cls := "LyndonBench", name := "reverse", desc := "()I" } : Jvm.MethodName), Jvm.Cond.instanceMethod ({ cls := "LyndonBench", name := "reverse", desc := "()I" } : Jvm.MethodName), Jvm.Cond.selects "LyndonBench" ({ cls := "LyndonBench", name := "reverse", desc := "()I" } : Jvm.MethodName) ({ cls := "LyndonBench", name := "reverse", desc := "()I" } : Jvm.MethodName), Jvm.Cond.code ({ cls := "LyndonBench", name := "reverse", desc := "()I" } : Jvm.MethodName) prog_1_method_11_code (1 : Nat) (Option.some Jvm.ClassFile.FieldType.int), Jvm.Cond.methodLink "LyndonBench" (151 : Nat) ({ cls := "LyndonBench$Word", name := "mirror", desc := "(II)V" } : Jvm.MethodName), Jvm.Cond.methodLink "LyndonBench" (134 : Nat) ({ cls := "LyndonBench$Word", name := "countFactors", desc := "()I" } : Jvm.MethodName), Jvm.Cond.instanceMethod ({ cls := "LyndonBench$Word", name := "countFactors", desc := "()I" } : Jvm.MethodName), Jvm.Cond.selects "LyndonBench$Word" ({ cls := "LyndonBench$Word", name := "countFactors", desc := "()I" } : Jvm.MethodName) ({ cls := "LyndonBench$Word", name := "countFactors", desc := "()I" } : Jvm.MethodName), Jvm.Cond.code ({ cls := "LyndonBench$Word", name := "countFactors", desc := "()I" } : Jvm.MethodName) prog_7_method_20_code (6 : Nat) (Option.some Jvm.ClassFile.FieldType.int), Jvm.Cond.methodLink "LyndonBenchLaw" (161 : Nat) ({ cls := "LyndonBench", name := "undo", desc := "()I" } : Jvm.MethodName)]
abbrev zl_3_1 : List Cond := [Jvm.Cond.instanceMethod ({ cls := "LyndonBench", name := "undo", desc := "()I" } : Jvm.MethodName), Jvm.Cond.selects "LyndonBench" ({ cls := "LyndonBench", name := "undo", desc := "()I" } : Jvm.MethodName) ({ cls := "LyndonBench", name := "undo", desc := "()I" } : Jvm.MethodName), Jvm.Cond.code ({ cls := "LyndonBench", name := "undo", desc := "()I" } : Jvm.MethodName) prog_1_method_18_code (1 : Nat) (Option.some Jvm.ClassFile.FieldType.int), Jvm.Cond.methodLink "LyndonBench" (208 : Nat) ({ cls := "LyndonBench$History", name := "bringBack", desc := "(LLyndonBench$State;)Z" } : Jvm.MethodName), Jvm.Cond.instanceMethod ({ cls := "LyndonBench$History", name := "bringBack", desc := "(LLyndonBench$State;)Z" } : Jvm.MethodName), Jvm.Cond.selects "LyndonBench$History" ({ cls := "LyndonBench$History", name := "bringBack", desc := "(LLyndonBench$State;)Z" } : Jvm.MethodName) ({ cls := "LyndonBench$History", name := "bringBack", desc := "(LLyndonBench$State;)Z" } : Jvm.MethodName), Jvm.Cond.code ({ cls := "LyndonBench$History", name := "bringBack", desc := "(LLyndonBench$State;)Z" } : Jvm.MethodName) prog_4_method_4_code (2 : Nat) (Option.some Jvm.ClassFile.FieldType.boolean), Jvm.Cond.methodLink "LyndonBenchLaw" (165 : Nat) ({ cls := "LyndonBench", name := "undoCount", desc := "()I" } : Jvm.MethodName), Jvm.Cond.instanceMethod ({ cls := "LyndonBench", name := "undoCount", desc := "()I" } : Jvm.MethodName), Jvm.Cond.selects "LyndonBench" ({ cls := "LyndonBench", name := "undoCount", desc := "()I" } : Jvm.MethodName) ({ cls := "LyndonBench", name := "undoCount", desc := "()I" } : Jvm.MethodName), Jvm.Cond.code ({ cls := "LyndonBench", name := "undoCount", desc := "()I" } : Jvm.MethodName) prog_1_method_19_code (1 : Nat) (Option.some Jvm.ClassFile.FieldType.int), Jvm.Cond.methodLink "LyndonBenchLaw" (169 : Nat) ({ cls := "LyndonBench", name := "saveSnapshot", desc := "()I" } : Jvm.MethodName), Jvm.Cond.instanceMethod ({ cls := "LyndonBench", name := "saveSnapshot", desc := "()I" } : Jvm.MethodName), Jvm.Cond.selects "LyndonBench" ({ cls := "LyndonBench", name := "saveSnapshot", desc := "()I" } : Jvm.MethodName) ({ cls := "LyndonBench", name := "saveSnapshot", desc := "()I" } : Jvm.MethodName), Jvm.Cond.code ({ cls := "LyndonBench", name := "saveSnapshot", desc := "()I" } : Jvm.MethodName) prog_1_method_20_code (1 : Nat) (Option.some Jvm.ClassFile.FieldType.int), Jvm.Cond.methodLink "LyndonBenchLaw" (176 : Nat) ({ cls := "LyndonBench", name := "scriptErrorKind", desc := "()I" } : Jvm.MethodName)]
abbrev zl_3_2 : List Cond := [Jvm.Cond.instanceMethod ({ cls := "LyndonBench", name := "scriptErrorKind", desc := "()I" } : Jvm.MethodName), Jvm.Cond.selects "LyndonBench" ({ cls := "LyndonBench", name := "scriptErrorKind", desc := "()I" } : Jvm.MethodName) ({ cls := "LyndonBench", name := "scriptErrorKind", desc := "()I" } : Jvm.MethodName), Jvm.Cond.code ({ cls := "LyndonBench", name := "scriptErrorKind", desc := "()I" } : Jvm.MethodName) prog_1_method_22_code (1 : Nat) (Option.some Jvm.ClassFile.FieldType.int), Jvm.Cond.methodLink "LyndonBenchLaw" (180 : Nat) ({ cls := "LyndonBench", name := "scriptErrorOffset", desc := "()I" } : Jvm.MethodName), Jvm.Cond.instanceMethod ({ cls := "LyndonBench", name := "scriptErrorOffset", desc := "()I" } : Jvm.MethodName), Jvm.Cond.selects "LyndonBench" ({ cls := "LyndonBench", name := "scriptErrorOffset", desc := "()I" } : Jvm.MethodName) ({ cls := "LyndonBench", name := "scriptErrorOffset", desc := "()I" } : Jvm.MethodName), Jvm.Cond.code ({ cls := "LyndonBench", name := "scriptErrorOffset", desc := "()I" } : Jvm.MethodName) prog_1_method_23_code (1 : Nat) (Option.some Jvm.ClassFile.FieldType.int), Jvm.Cond.methodLink "LyndonBenchLaw" (184 : Nat) ({ cls := "LyndonBench", name := "letters", desc := "()I" } : Jvm.MethodName), Jvm.Cond.instanceMethod ({ cls := "LyndonBench", name := "letters", desc := "()I" } : Jvm.MethodName), Jvm.Cond.selects "LyndonBench" ({ cls := "LyndonBench", name := "letters", desc := "()I" } : Jvm.MethodName) ({ cls := "LyndonBench", name := "letters", desc := "()I" } : Jvm.MethodName), Jvm.Cond.code ({ cls := "LyndonBench", name := "letters", desc := "()I" } : Jvm.MethodName) prog_1_method_24_code (1 : Nat) (Option.some Jvm.ClassFile.FieldType.int), Jvm.Cond.methodLink "LyndonBenchLaw" (188 : Nat) ({ cls := "LyndonBench", name := "length", desc := "()I" } : Jvm.MethodName), Jvm.Cond.instanceMethod ({ cls := "LyndonBench", name := "length", desc := "()I" } : Jvm.MethodName), Jvm.Cond.selects "LyndonBench" ({ cls := "LyndonBench", name := "length", desc := "()I" } : Jvm.MethodName) ({ cls := "LyndonBench", name := "length", desc := "()I" } : Jvm.MethodName), Jvm.Cond.code ({ cls := "LyndonBench", name := "length", desc := "()I" } : Jvm.MethodName) prog_1_method_25_code (1 : Nat) (Option.some Jvm.ClassFile.FieldType.int), Jvm.Cond.methodLink "LyndonBenchLaw" (192 : Nat) ({ cls := "LyndonBench", name := "letterAt", desc := "(I)I" } : Jvm.MethodName)]
abbrev zl_3_3 : List Cond := [Jvm.Cond.instanceMethod ({ cls := "LyndonBench", name := "letterAt", desc := "(I)I" } : Jvm.MethodName), Jvm.Cond.selects "LyndonBench" ({ cls := "LyndonBench", name := "letterAt", desc := "(I)I" } : Jvm.MethodName) ({ cls := "LyndonBench", name := "letterAt", desc := "(I)I" } : Jvm.MethodName), Jvm.Cond.code ({ cls := "LyndonBench", name := "letterAt", desc := "(I)I" } : Jvm.MethodName) prog_1_method_26_code (2 : Nat) (Option.some Jvm.ClassFile.FieldType.int), Jvm.Cond.methodLink "LyndonBench" (116 : Nat) ({ cls := "LyndonBench$Word", name := "at", desc := "(I)I" } : Jvm.MethodName), Jvm.Cond.methodLink "LyndonBenchLaw" (200 : Nat) ({ cls := "LyndonBench", name := "factorCount", desc := "()I" } : Jvm.MethodName), Jvm.Cond.instanceMethod ({ cls := "LyndonBench", name := "factorCount", desc := "()I" } : Jvm.MethodName), Jvm.Cond.selects "LyndonBench" ({ cls := "LyndonBench", name := "factorCount", desc := "()I" } : Jvm.MethodName) ({ cls := "LyndonBench", name := "factorCount", desc := "()I" } : Jvm.MethodName), Jvm.Cond.code ({ cls := "LyndonBench", name := "factorCount", desc := "()I" } : Jvm.MethodName) prog_1_method_28_code (1 : Nat) (Option.some Jvm.ClassFile.FieldType.int), Jvm.Cond.methodLink "LyndonBenchLaw" (213 : Nat) ({ cls := "LyndonBench", name := "factorOf", desc := "(I)I" } : Jvm.MethodName), Jvm.Cond.instanceMethod ({ cls := "LyndonBench", name := "factorOf", desc := "(I)I" } : Jvm.MethodName), Jvm.Cond.selects "LyndonBench" ({ cls := "LyndonBench", name := "factorOf", desc := "(I)I" } : Jvm.MethodName) ({ cls := "LyndonBench", name := "factorOf", desc := "(I)I" } : Jvm.MethodName), Jvm.Cond.code ({ cls := "LyndonBench", name := "factorOf", desc := "(I)I" } : Jvm.MethodName) prog_1_method_32_code (2 : Nat) (Option.some Jvm.ClassFile.FieldType.int), Jvm.Cond.methodLink "LyndonBench" (234 : Nat) ({ cls := "LyndonBench$Word", name := "factorWith", desc := "(I)I" } : Jvm.MethodName), Jvm.Cond.instanceMethod ({ cls := "LyndonBench$Word", name := "factorWith", desc := "(I)I" } : Jvm.MethodName), Jvm.Cond.selects "LyndonBench$Word" ({ cls := "LyndonBench$Word", name := "factorWith", desc := "(I)I" } : Jvm.MethodName) ({ cls := "LyndonBench$Word", name := "factorWith", desc := "(I)I" } : Jvm.MethodName), Jvm.Cond.code ({ cls := "LyndonBench$Word", name := "factorWith", desc := "(I)I" } : Jvm.MethodName) prog_7_method_23_code (7 : Nat) (Option.some Jvm.ClassFile.FieldType.int)]
abbrev zl_3_4 : List Cond := [Jvm.Cond.methodLink "LyndonBenchLaw" (217 : Nat) ({ cls := "LyndonBench", name := "longestFactor", desc := "()I" } : Jvm.MethodName), Jvm.Cond.instanceMethod ({ cls := "LyndonBench", name := "longestFactor", desc := "()I" } : Jvm.MethodName), Jvm.Cond.selects "LyndonBench" ({ cls := "LyndonBench", name := "longestFactor", desc := "()I" } : Jvm.MethodName) ({ cls := "LyndonBench", name := "longestFactor", desc := "()I" } : Jvm.MethodName), Jvm.Cond.code ({ cls := "LyndonBench", name := "longestFactor", desc := "()I" } : Jvm.MethodName) prog_1_method_33_code (1 : Nat) (Option.some Jvm.ClassFile.FieldType.int), Jvm.Cond.methodLink "LyndonBench" (237 : Nat) ({ cls := "LyndonBench$Word", name := "firstLongestFactor", desc := "()I" } : Jvm.MethodName), Jvm.Cond.instanceMethod ({ cls := "LyndonBench$Word", name := "firstLongestFactor", desc := "()I" } : Jvm.MethodName), Jvm.Cond.selects "LyndonBench$Word" ({ cls := "LyndonBench$Word", name := "firstLongestFactor", desc := "()I" } : Jvm.MethodName) ({ cls := "LyndonBench$Word", name := "firstLongestFactor", desc := "()I" } : Jvm.MethodName), Jvm.Cond.code ({ cls := "LyndonBench$Word", name := "firstLongestFactor", desc := "()I" } : Jvm.MethodName) prog_7_method_24_code (7 : Nat) (Option.some Jvm.ClassFile.FieldType.int), Jvm.Cond.methodLink "LyndonBenchLaw" (230 : Nat) ({ cls := "LyndonBench", name := "isLyndon", desc := "()Z" } : Jvm.MethodName), Jvm.Cond.instanceMethod ({ cls := "LyndonBench", name := "isLyndon", desc := "()Z" } : Jvm.MethodName), Jvm.Cond.selects "LyndonBench" ({ cls := "LyndonBench", name := "isLyndon", desc := "()Z" } : Jvm.MethodName) ({ cls := "LyndonBench", name := "isLyndon", desc := "()Z" } : Jvm.MethodName), Jvm.Cond.code ({ cls := "LyndonBench", name := "isLyndon", desc := "()Z" } : Jvm.MethodName) prog_1_method_37_code (1 : Nat) (Option.some Jvm.ClassFile.FieldType.boolean), Jvm.Cond.methodLink "LyndonBench" (250 : Nat) ({ cls := "LyndonBench$Word", name := "isOneFactor", desc := "()Z" } : Jvm.MethodName), Jvm.Cond.methodLink "LyndonBenchLaw" (235 : Nat) ({ cls := "LyndonBench", name := "whyNotLyndon", desc := "()I" } : Jvm.MethodName), Jvm.Cond.instanceMethod ({ cls := "LyndonBench", name := "whyNotLyndon", desc := "()I" } : Jvm.MethodName), Jvm.Cond.selects "LyndonBench" ({ cls := "LyndonBench", name := "whyNotLyndon", desc := "()I" } : Jvm.MethodName) ({ cls := "LyndonBench", name := "whyNotLyndon", desc := "()I" } : Jvm.MethodName)]
abbrev zl_3_5 : List Cond := [Jvm.Cond.code ({ cls := "LyndonBench", name := "whyNotLyndon", desc := "()I" } : Jvm.MethodName) prog_1_method_38_code (1 : Nat) (Option.some Jvm.ClassFile.FieldType.int), Jvm.Cond.methodLink "LyndonBench" (253 : Nat) ({ cls := "LyndonBench$Word", name := "countTurns", desc := "()I" } : Jvm.MethodName), Jvm.Cond.instanceMethod ({ cls := "LyndonBench$Word", name := "countTurns", desc := "()I" } : Jvm.MethodName), Jvm.Cond.selects "LyndonBench$Word" ({ cls := "LyndonBench$Word", name := "countTurns", desc := "()I" } : Jvm.MethodName) ({ cls := "LyndonBench$Word", name := "countTurns", desc := "()I" } : Jvm.MethodName), Jvm.Cond.code ({ cls := "LyndonBench$Word", name := "countTurns", desc := "()I" } : Jvm.MethodName) prog_7_method_30_code (2 : Nat) (Option.some Jvm.ClassFile.FieldType.int), Jvm.Cond.methodLink "LyndonBench$Word" (74 : Nat) ({ cls := "LyndonBench$Word", name := "leastPeriod", desc := "()I" } : Jvm.MethodName), Jvm.Cond.instanceMethod ({ cls := "LyndonBench$Word", name := "leastPeriod", desc := "()I" } : Jvm.MethodName), Jvm.Cond.selects "LyndonBench$Word" ({ cls := "LyndonBench$Word", name := "leastPeriod", desc := "()I" } : Jvm.MethodName) ({ cls := "LyndonBench$Word", name := "leastPeriod", desc := "()I" } : Jvm.MethodName), Jvm.Cond.code ({ cls := "LyndonBench$Word", name := "leastPeriod", desc := "()I" } : Jvm.MethodName) prog_7_method_29_code (2 : Nat) (Option.some Jvm.ClassFile.FieldType.int), Jvm.Cond.methodLink "LyndonBench$Word" (70 : Nat) ({ cls := "LyndonBench$Word", name := "hasPeriod", desc := "(I)Z" } : Jvm.MethodName), Jvm.Cond.privateMethod ({ cls := "LyndonBench$Word", name := "hasPeriod", desc := "(I)Z" } : Jvm.MethodName), Jvm.Cond.instanceMethod ({ cls := "LyndonBench$Word", name := "hasPeriod", desc := "(I)Z" } : Jvm.MethodName), Jvm.Cond.code ({ cls := "LyndonBench$Word", name := "hasPeriod", desc := "(I)Z" } : Jvm.MethodName) prog_7_method_28_code (3 : Nat) (Option.some Jvm.ClassFile.FieldType.boolean), Jvm.Cond.methodLink "LyndonBench" (156 : Nat) ({ cls := "LyndonBench$Word", name := "leastTurn", desc := "()I" } : Jvm.MethodName), Jvm.Cond.methodLink "LyndonBenchLaw" (239 : Nat) ({ cls := "LyndonBench", name := "isNecklace", desc := "()Z" } : Jvm.MethodName), Jvm.Cond.instanceMethod ({ cls := "LyndonBench", name := "isNecklace", desc := "()Z" } : Jvm.MethodName)]
abbrev zl_3_6 : List Cond := [Jvm.Cond.selects "LyndonBench" ({ cls := "LyndonBench", name := "isNecklace", desc := "()Z" } : Jvm.MethodName) ({ cls := "LyndonBench", name := "isNecklace", desc := "()Z" } : Jvm.MethodName), Jvm.Cond.code ({ cls := "LyndonBench", name := "isNecklace", desc := "()Z" } : Jvm.MethodName) prog_1_method_39_code (1 : Nat) (Option.some Jvm.ClassFile.FieldType.boolean), Jvm.Cond.methodLink "LyndonBenchLaw" (243 : Nat) ({ cls := "LyndonBench", name := "isPrenecklace", desc := "()Z" } : Jvm.MethodName), Jvm.Cond.instanceMethod ({ cls := "LyndonBench", name := "isPrenecklace", desc := "()Z" } : Jvm.MethodName), Jvm.Cond.selects "LyndonBench" ({ cls := "LyndonBench", name := "isPrenecklace", desc := "()Z" } : Jvm.MethodName) ({ cls := "LyndonBench", name := "isPrenecklace", desc := "()Z" } : Jvm.MethodName), Jvm.Cond.code ({ cls := "LyndonBench", name := "isPrenecklace", desc := "()Z" } : Jvm.MethodName) prog_1_method_40_code (1 : Nat) (Option.some Jvm.ClassFile.FieldType.boolean), Jvm.Cond.methodLink "LyndonBench" (256 : Nat) ({ cls := "LyndonBench$Word", name := "beginsNecklace", desc := "()Z" } : Jvm.MethodName), Jvm.Cond.instanceMethod ({ cls := "LyndonBench$Word", name := "beginsNecklace", desc := "()Z" } : Jvm.MethodName), Jvm.Cond.selects "LyndonBench$Word" ({ cls := "LyndonBench$Word", name := "beginsNecklace", desc := "()Z" } : Jvm.MethodName) ({ cls := "LyndonBench$Word", name := "beginsNecklace", desc := "()Z" } : Jvm.MethodName), Jvm.Cond.code ({ cls := "LyndonBench$Word", name := "beginsNecklace", desc := "()Z" } : Jvm.MethodName) prog_7_method_27_code (1 : Nat) (Option.some Jvm.ClassFile.FieldType.boolean), Jvm.Cond.methodLink "LyndonBenchLaw" (247 : Nat) ({ cls := "LyndonBench", name := "keepingLetter", desc := "()I" } : Jvm.MethodName), Jvm.Cond.instanceMethod ({ cls := "LyndonBench", name := "keepingLetter", desc := "()I" } : Jvm.MethodName), Jvm.Cond.selects "LyndonBench" ({ cls := "LyndonBench", name := "keepingLetter", desc := "()I" } : Jvm.MethodName) ({ cls := "LyndonBench", name := "keepingLetter", desc := "()I" } : Jvm.MethodName), Jvm.Cond.code ({ cls := "LyndonBench", name := "keepingLetter", desc := "()I" } : Jvm.MethodName) prog_1_method_41_code (1 : Nat) (Option.some Jvm.ClassFile.FieldType.int), Jvm.Cond.methodLink "LyndonBench" (175 : Nat) ({ cls := "LyndonBench$Word", name := "lyndonEnd", desc := "(I)I" } : Jvm.MethodName), Jvm.Cond.methodLink "LyndonBenchLaw" (251 : Nat) ({ cls := "LyndonBench", name := "leastRotation", desc := "()I" } : Jvm.MethodName)]
abbrev zl_3_7 : List Cond := [Jvm.Cond.instanceMethod ({ cls := "LyndonBench", name := "leastRotation", desc := "()I" } : Jvm.MethodName), Jvm.Cond.selects "LyndonBench" ({ cls := "LyndonBench", name := "leastRotation", desc := "()I" } : Jvm.MethodName) ({ cls := "LyndonBench", name := "leastRotation", desc := "()I" } : Jvm.MethodName), Jvm.Cond.code ({ cls := "LyndonBench", name := "leastRotation", desc := "()I" } : Jvm.MethodName) prog_1_method_42_code (1 : Nat) (Option.some Jvm.ClassFile.FieldType.int), Jvm.Cond.methodLink "LyndonBenchLaw" (255 : Nat) ({ cls := "LyndonBench", name := "rotationCount", desc := "()I" } : Jvm.MethodName), Jvm.Cond.instanceMethod ({ cls := "LyndonBench", name := "rotationCount", desc := "()I" } : Jvm.MethodName), Jvm.Cond.selects "LyndonBench" ({ cls := "LyndonBench", name := "rotationCount", desc := "()I" } : Jvm.MethodName) ({ cls := "LyndonBench", name := "rotationCount", desc := "()I" } : Jvm.MethodName), Jvm.Cond.code ({ cls := "LyndonBench", name := "rotationCount", desc := "()I" } : Jvm.MethodName) prog_1_method_43_code (1 : Nat) (Option.some Jvm.ClassFile.FieldType.int), Jvm.Cond.methodLink "LyndonBenchLaw" (259 : Nat) ({ cls := "LyndonBench", name := "smallestPeriod", desc := "()I" } : Jvm.MethodName), Jvm.Cond.instanceMethod ({ cls := "LyndonBench", name := "smallestPeriod", desc := "()I" } : Jvm.MethodName), Jvm.Cond.selects "LyndonBench" ({ cls := "LyndonBench", name := "smallestPeriod", desc := "()I" } : Jvm.MethodName) ({ cls := "LyndonBench", name := "smallestPeriod", desc := "()I" } : Jvm.MethodName), Jvm.Cond.code ({ cls := "LyndonBench", name := "smallestPeriod", desc := "()I" } : Jvm.MethodName) prog_1_method_44_code (1 : Nat) (Option.some Jvm.ClassFile.FieldType.int), Jvm.Cond.methodLink "LyndonBench" (259 : Nat) ({ cls := "LyndonBench$Word", name := "leastPeriod", desc := "()I" } : Jvm.MethodName), Jvm.Cond.methodLink "LyndonBenchLaw" (263 : Nat) ({ cls := "LyndonBench", name := "longestBorder", desc := "()I" } : Jvm.MethodName), Jvm.Cond.instanceMethod ({ cls := "LyndonBench", name := "longestBorder", desc := "()I" } : Jvm.MethodName), Jvm.Cond.selects "LyndonBench" ({ cls := "LyndonBench", name := "longestBorder", desc := "()I" } : Jvm.MethodName) ({ cls := "LyndonBench", name := "longestBorder", desc := "()I" } : Jvm.MethodName), Jvm.Cond.code ({ cls := "LyndonBench", name := "longestBorder", desc := "()I" } : Jvm.MethodName) prog_1_method_45_code (1 : Nat) (Option.some Jvm.ClassFile.FieldType.int)]
abbrev zl_3_8 : List Cond := [Jvm.Cond.methodLink "LyndonBenchLaw" (267 : Nat) ({ cls := "LyndonBench", name := "leastSuffix", desc := "()I" } : Jvm.MethodName), Jvm.Cond.instanceMethod ({ cls := "LyndonBench", name := "leastSuffix", desc := "()I" } : Jvm.MethodName), Jvm.Cond.selects "LyndonBench" ({ cls := "LyndonBench", name := "leastSuffix", desc := "()I" } : Jvm.MethodName) ({ cls := "LyndonBench", name := "leastSuffix", desc := "()I" } : Jvm.MethodName), Jvm.Cond.code ({ cls := "LyndonBench", name := "leastSuffix", desc := "()I" } : Jvm.MethodName) prog_1_method_46_code (1 : Nat) (Option.some Jvm.ClassFile.FieldType.int), Jvm.Cond.methodLink "LyndonBench" (262 : Nat) ({ cls := "LyndonBench$Word", name := "extremeEnding", desc := "(I)I" } : Jvm.MethodName), Jvm.Cond.instanceMethod ({ cls := "LyndonBench$Word", name := "extremeEnding", desc := "(I)I" } : Jvm.MethodName), Jvm.Cond.selects "LyndonBench$Word" ({ cls := "LyndonBench$Word", name := "extremeEnding", desc := "(I)I" } : Jvm.MethodName) ({ cls := "LyndonBench$Word", name := "extremeEnding", desc := "(I)I" } : Jvm.MethodName), Jvm.Cond.code ({ cls := "LyndonBench$Word", name := "extremeEnding", desc := "(I)I" } : Jvm.MethodName) prog_7_method_33_code (4 : Nat) (Option.some Jvm.ClassFile.FieldType.int), Jvm.Cond.methodLink "LyndonBenchLaw" (271 : Nat) ({ cls := "LyndonBench", name := "greatestSuffix", desc := "()I" } : Jvm.MethodName), Jvm.Cond.instanceMethod ({ cls := "LyndonBench", name := "greatestSuffix", desc := "()I" } : Jvm.MethodName), Jvm.Cond.selects "LyndonBench" ({ cls := "LyndonBench", name := "greatestSuffix", desc := "()I" } : Jvm.MethodName) ({ cls := "LyndonBench", name := "greatestSuffix", desc := "()I" } : Jvm.MethodName), Jvm.Cond.code ({ cls := "LyndonBench", name := "greatestSuffix", desc := "()I" } : Jvm.MethodName) prog_1_method_47_code (1 : Nat) (Option.some Jvm.ClassFile.FieldType.int), Jvm.Cond.methodLink "LyndonBenchLaw" (284 : Nat) ({ cls := "LyndonBench", name := "keptCount", desc := "()I" } : Jvm.MethodName), Jvm.Cond.instanceMethod ({ cls := "LyndonBench", name := "keptCount", desc := "()I" } : Jvm.MethodName), Jvm.Cond.selects "LyndonBench" ({ cls := "LyndonBench", name := "keptCount", desc := "()I" } : Jvm.MethodName) ({ cls := "LyndonBench", name := "keptCount", desc := "()I" } : Jvm.MethodName), Jvm.Cond.code ({ cls := "LyndonBench", name := "keptCount", desc := "()I" } : Jvm.MethodName) prog_1_method_51_code (1 : Nat) (Option.some Jvm.ClassFile.FieldType.int)]
abbrev zl_3_9 : List Cond := [Jvm.Cond.methodLink "LyndonBenchLaw" (294 : Nat) ({ cls := "LyndonBench", name := "isShelfFalling", desc := "()Z" } : Jvm.MethodName), Jvm.Cond.instanceMethod ({ cls := "LyndonBench", name := "isShelfFalling", desc := "()Z" } : Jvm.MethodName), Jvm.Cond.selects "LyndonBench" ({ cls := "LyndonBench", name := "isShelfFalling", desc := "()Z" } : Jvm.MethodName) ({ cls := "LyndonBench", name := "isShelfFalling", desc := "()Z" } : Jvm.MethodName), Jvm.Cond.code ({ cls := "LyndonBench", name := "isShelfFalling", desc := "()Z" } : Jvm.MethodName) prog_1_method_54_code (4 : Nat) (Option.some Jvm.ClassFile.FieldType.boolean), Jvm.Cond.methodLink "LyndonBench" (188 : Nat) ({ cls := "LyndonBench$State", name := "keptAt", desc := "(I)LLyndonBench$Word;" } : Jvm.MethodName), Jvm.Cond.methodLink "LyndonBench" (226 : Nat) ({ cls := "LyndonBench$Word", name := "order", desc := "(IILLyndonBench$Word;II)I" } : Jvm.MethodName), Jvm.Cond.methodLink "LyndonBenchLaw" (298 : Nat) ({ cls := "LyndonBench", name := "greatestKept", desc := "()I" } : Jvm.MethodName), Jvm.Cond.instanceMethod ({ cls := "LyndonBench", name := "greatestKept", desc := "()I" } : Jvm.MethodName), Jvm.Cond.selects "LyndonBench" ({ cls := "LyndonBench", name := "greatestKept", desc := "()I" } : Jvm.MethodName) ({ cls := "LyndonBench", name := "greatestKept", desc := "()I" } : Jvm.MethodName), Jvm.Cond.code ({ cls := "LyndonBench", name := "greatestKept", desc := "()I" } : Jvm.MethodName) prog_1_method_55_code (1 : Nat) (Option.some Jvm.ClassFile.FieldType.int), Jvm.Cond.methodLink "LyndonBench" (286 : Nat) ({ cls := "LyndonBench$State", name := "greatestOfShelf", desc := "(I)I" } : Jvm.MethodName), Jvm.Cond.methodLink "LyndonBenchLaw" (302 : Nat) ({ cls := "LyndonBench", name := "meanFactor", desc := "()D" } : Jvm.MethodName), Jvm.Cond.instanceMethod ({ cls := "LyndonBench", name := "meanFactor", desc := "()D" } : Jvm.MethodName), Jvm.Cond.selects "LyndonBench" ({ cls := "LyndonBench", name := "meanFactor", desc := "()D" } : Jvm.MethodName) ({ cls := "LyndonBench", name := "meanFactor", desc := "()D" } : Jvm.MethodName), Jvm.Cond.code ({ cls := "LyndonBench", name := "meanFactor", desc := "()D" } : Jvm.MethodName) prog_1_method_56_code (2 : Nat) (Option.some Jvm.ClassFile.FieldType.double), Jvm.Cond.methodLink "LyndonBenchLaw" (307 : Nat) ({ cls := "LyndonBench", name := "lyndonShare", desc := "()F" } : Jvm.MethodName)]
abbrev zl_3_10 : List Cond := [Jvm.Cond.instanceMethod ({ cls := "LyndonBench", name := "lyndonShare", desc := "()F" } : Jvm.MethodName), Jvm.Cond.selects "LyndonBench" ({ cls := "LyndonBench", name := "lyndonShare", desc := "()F" } : Jvm.MethodName) ({ cls := "LyndonBench", name := "lyndonShare", desc := "()F" } : Jvm.MethodName), Jvm.Cond.code ({ cls := "LyndonBench", name := "lyndonShare", desc := "()F" } : Jvm.MethodName) prog_1_method_57_code (3 : Nat) (Option.some Jvm.ClassFile.FieldType.float), Jvm.Cond.fieldLink "LyndonBench" (268 : Nat) "LyndonBench" "MOEBIUS" "[I", Jvm.Cond.laysStatic "LyndonBench" "MOEBIUS" "[I", Jvm.Cond.methodLink "LyndonBench" (272 : Nat) ({ cls := "LyndonBench", name := "weighPowers", desc := "(II[I)J" } : Jvm.MethodName), Jvm.Cond.static ({ cls := "LyndonBench", name := "weighPowers", desc := "(II[I)J" } : Jvm.MethodName), Jvm.Cond.code ({ cls := "LyndonBench", name := "weighPowers", desc := "(II[I)J" } : Jvm.MethodName) prog_1_method_67_code (6 : Nat) (Option.some Jvm.ClassFile.FieldType.long), Jvm.Cond.methodLink "LyndonBench" (310 : Nat) ({ cls := "LyndonBench", name := "power", desc := "(II)J" } : Jvm.MethodName), Jvm.Cond.static ({ cls := "LyndonBench", name := "power", desc := "(II)J" } : Jvm.MethodName), Jvm.Cond.code ({ cls := "LyndonBench", name := "power", desc := "(II)J" } : Jvm.MethodName) prog_1_method_68_code (5 : Nat) (Option.some Jvm.ClassFile.FieldType.long), Jvm.Cond.fieldLink "LyndonBench" (276 : Nat) "LyndonBench" "TOTIENT" "[I", Jvm.Cond.laysStatic "LyndonBench" "TOTIENT" "[I", Jvm.Cond.methodLink "LyndonBenchLaw" (312 : Nat) ({ cls := "LyndonBench", name := "violations", desc := "()I" } : Jvm.MethodName), Jvm.Cond.instanceMethod ({ cls := "LyndonBench", name := "violations", desc := "()I" } : Jvm.MethodName), Jvm.Cond.selects "LyndonBench" ({ cls := "LyndonBench", name := "violations", desc := "()I" } : Jvm.MethodName) ({ cls := "LyndonBench", name := "violations", desc := "()I" } : Jvm.MethodName)]
abbrev zl_3_11 : List Cond := [Jvm.Cond.code ({ cls := "LyndonBench", name := "violations", desc := "()I" } : Jvm.MethodName) prog_1_method_58_code (7 : Nat) (Option.some Jvm.ClassFile.FieldType.int), Jvm.Cond.methodLink "LyndonBench" (289 : Nat) ({ cls := "LyndonBench$Word", name := "isLyndonPart", desc := "(II)Z" } : Jvm.MethodName), Jvm.Cond.instanceMethod ({ cls := "LyndonBench$Word", name := "isLyndonPart", desc := "(II)Z" } : Jvm.MethodName), Jvm.Cond.selects "LyndonBench$Word" ({ cls := "LyndonBench$Word", name := "isLyndonPart", desc := "(II)Z" } : Jvm.MethodName) ({ cls := "LyndonBench$Word", name := "isLyndonPart", desc := "(II)Z" } : Jvm.MethodName), Jvm.Cond.code ({ cls := "LyndonBench$Word", name := "isLyndonPart", desc := "(II)Z" } : Jvm.MethodName) prog_7_method_26_code (4 : Nat) (Option.some Jvm.ClassFile.FieldType.boolean), Jvm.Cond.methodLink "LyndonBenchLaw" (316 : Nat) ({ cls := "LyndonBench", name := "writeFactors", desc := "()I" } : Jvm.MethodName), Jvm.Cond.instanceMethod ({ cls := "LyndonBench", name := "writeFactors", desc := "()I" } : Jvm.MethodName), Jvm.Cond.selects "LyndonBench" ({ cls := "LyndonBench", name := "writeFactors", desc := "()I" } : Jvm.MethodName) ({ cls := "LyndonBench", name := "writeFactors", desc := "()I" } : Jvm.MethodName), Jvm.Cond.code ({ cls := "LyndonBench", name := "writeFactors", desc := "()I" } : Jvm.MethodName) prog_1_method_59_code (6 : Nat) (Option.some Jvm.ClassFile.FieldType.int), Jvm.Cond.methodLink "LyndonBench" (230 : Nat) ({ cls := "LyndonBench$Word", name := "countFactorsLike", desc := "(II)I" } : Jvm.MethodName), Jvm.Cond.instanceMethod ({ cls := "LyndonBench$Word", name := "countFactorsLike", desc := "(II)I" } : Jvm.MethodName), Jvm.Cond.selects "LyndonBench$Word" ({ cls := "LyndonBench$Word", name := "countFactorsLike", desc := "(II)I" } : Jvm.MethodName) ({ cls := "LyndonBench$Word", name := "countFactorsLike", desc := "(II)I" } : Jvm.MethodName), Jvm.Cond.code ({ cls := "LyndonBench$Word", name := "countFactorsLike", desc := "(II)I" } : Jvm.MethodName) prog_7_method_25_code (8 : Nat) (Option.some Jvm.ClassFile.FieldType.int), Jvm.Cond.methodLink "LyndonBench" (131 : Nat) ({ cls := "LyndonBench$Word", name := "add", desc := "(I)V" } : Jvm.MethodName), Jvm.Cond.methodLink "LyndonBench" (125 : Nat) ({ cls := "LyndonBench$Word", name := "addPart", desc := "(LLyndonBench$Word;II)V" } : Jvm.MethodName), Jvm.Cond.methodLink "LyndonBench" (292 : Nat) ({ cls := "LyndonBench$Word", name := "addNumber", desc := "(I)V" } : Jvm.MethodName)]
abbrev zl_3_12 : List Cond := [Jvm.Cond.instanceMethod ({ cls := "LyndonBench$Word", name := "addNumber", desc := "(I)V" } : Jvm.MethodName), Jvm.Cond.selects "LyndonBench$Word" ({ cls := "LyndonBench$Word", name := "addNumber", desc := "(I)V" } : Jvm.MethodName) ({ cls := "LyndonBench$Word", name := "addNumber", desc := "(I)V" } : Jvm.MethodName), Jvm.Cond.code ({ cls := "LyndonBench$Word", name := "addNumber", desc := "(I)V" } : Jvm.MethodName) prog_7_method_9_code (2 : Nat) (Option.none : Option Jvm.ClassFile.FieldType), Jvm.Cond.methodLink "LyndonBenchLaw" (320 : Nat) ({ cls := "LyndonBench", name := "reportByte", desc := "(I)I" } : Jvm.MethodName), Jvm.Cond.instanceMethod ({ cls := "LyndonBench", name := "reportByte", desc := "(I)I" } : Jvm.MethodName), Jvm.Cond.selects "LyndonBench" ({ cls := "LyndonBench", name := "reportByte", desc := "(I)I" } : Jvm.MethodName) ({ cls := "LyndonBench", name := "reportByte", desc := "(I)I" } : Jvm.MethodName), Jvm.Cond.code ({ cls := "LyndonBench", name := "reportByte", desc := "(I)I" } : Jvm.MethodName) prog_1_method_60_code (2 : Nat) (Option.some Jvm.ClassFile.FieldType.int), Jvm.Cond.methodLink "LyndonBenchLaw" (109 : Nat) ({ cls := "LyndonBenchLaw", name := "truncateInput", desc := "(LLyndonBench;I[J)I" } : Jvm.MethodName), Jvm.Cond.static ({ cls := "LyndonBenchLaw", name := "truncateInput", desc := "(LLyndonBench;I[J)I" } : Jvm.MethodName), Jvm.Cond.codeWith ({ cls := "LyndonBenchLaw", name := "truncateInput", desc := "(LLyndonBench;I[J)I" } : Jvm.MethodName) method_3_code (4 : Nat) (Option.some Jvm.ClassFile.FieldType.int) [((0 : Nat), (9 : Nat), (12 : Nat), (13 : Nat))], Jvm.Cond.classLink "LyndonBenchLaw" (13 : Nat) "java/lang/IllegalArgumentException", Jvm.Cond.methodLink "LyndonBenchLaw" (7 : Nat) ({ cls := "LyndonBench", name := "truncateInput", desc := "(I)I" } : Jvm.MethodName), Jvm.Cond.instanceMethod ({ cls := "LyndonBench", name := "truncateInput", desc := "(I)I" } : Jvm.MethodName), Jvm.Cond.selects "LyndonBench" ({ cls := "LyndonBench", name := "truncateInput", desc := "(I)I" } : Jvm.MethodName) ({ cls := "LyndonBench", name := "truncateInput", desc := "(I)I" } : Jvm.MethodName), Jvm.Cond.code ({ cls := "LyndonBench", name := "truncateInput", desc := "(I)I" } : Jvm.MethodName) prog_1_method_3_code (2 : Nat) (Option.some Jvm.ClassFile.FieldType.int), Jvm.Cond.classLink "LyndonBench" (77 : Nat) "java/lang/IllegalArgumentException"]
abbrev zl_3_13 : List Cond := [Jvm.Cond.instantiable "java/lang/IllegalArgumentException" (6 : Nat), Jvm.Cond.castable "java/lang/IllegalArgumentException" "java/lang/IllegalArgumentException", Jvm.Cond.declares ({ cls := "java/lang/RuntimeException", name := "<init>", desc := "()V" } : Jvm.MethodName), Jvm.Cond.declares ({ cls := "java/lang/RuntimeException", name := "<init>", desc := "(Ljava/lang/String;)V" } : Jvm.MethodName), Jvm.Cond.declares ({ cls := "java/lang/Exception", name := "<init>", desc := "()V" } : Jvm.MethodName), Jvm.Cond.declares ({ cls := "java/lang/Exception", name := "<init>", desc := "(Ljava/lang/String;)V" } : Jvm.MethodName), Jvm.Cond.declares ({ cls := "java/lang/Throwable", name := "<init>", desc := "()V" } : Jvm.MethodName), Jvm.Cond.declares ({ cls := "java/lang/Throwable", name := "<init>", desc := "(Ljava/lang/String;)V" } : Jvm.MethodName), Jvm.Cond.selects "java/lang/IllegalArgumentException" ({ cls := "java/lang/Throwable", name := "fillInStackTrace", desc := "(I)Ljava/lang/Throwable;" } : Jvm.MethodName) ({ cls := "java/lang/Throwable", name := "fillInStackTrace", desc := "(I)Ljava/lang/Throwable;" } : Jvm.MethodName), Jvm.Cond.selects "java/lang/IllegalArgumentException" ({ cls := "java/lang/Throwable", name := "fillInStackTrace", desc := "()Ljava/lang/Throwable;" } : Jvm.MethodName) ({ cls := "java/lang/Throwable", name := "fillInStackTrace", desc := "()Ljava/lang/Throwable;" } : Jvm.MethodName), Jvm.Cond.lays "java/lang/IllegalArgumentException" "java/lang/Throwable" "cause" "Ljava/lang/Throwable;", Jvm.Cond.lays "java/lang/Throwable" "java/lang/Throwable" "cause" "Ljava/lang/Throwable;", Jvm.Cond.lays "java/lang/IllegalArgumentException" "java/lang/Throwable" "stackTrace" "[Ljava/lang/StackTraceElement;", Jvm.Cond.lays "java/lang/Throwable" "java/lang/Throwable" "stackTrace" "[Ljava/lang/StackTraceElement;", Jvm.Cond.lays "java/lang/IllegalArgumentException" "java/lang/Throwable" "suppressedExceptions" "Ljava/util/List;", Jvm.Cond.lays "java/lang/Throwable" "java/lang/Throwable" "suppressedExceptions" "Ljava/util/List;"]
abbrev zl_3_14 : List Cond := [Jvm.Cond.lays "java/lang/IllegalArgumentException" "java/lang/Throwable" "detailMessage" "Ljava/lang/String;", Jvm.Cond.lays "java/lang/Throwable" "java/lang/Throwable" "detailMessage" "Ljava/lang/String;", Jvm.Cond.lays "java/lang/IllegalArgumentException" "java/lang/Throwable" "backtrace" "Ljava/lang/Object;", Jvm.Cond.lays "java/lang/Throwable" "java/lang/Throwable" "backtrace" "Ljava/lang/Object;", Jvm.Cond.fieldLink "java/lang/Throwable" (198 : Nat) "java/lang/Throwable" "backtrace" "Ljava/lang/Object;", Jvm.Cond.superclass "java/lang/Throwable" "java/lang/Object", Jvm.Cond.instanceMethod ({ cls := "java/lang/Throwable", name := "<init>", desc := "()V" } : Jvm.MethodName), Jvm.Cond.code ({ cls := "java/lang/Throwable", name := "<init>", desc := "()V" } : Jvm.MethodName) prog_23_method_1_code (1 : Nat) (Option.none : Option Jvm.ClassFile.FieldType), Jvm.Cond.methodLink "java/lang/Throwable" (1 : Nat) ({ cls := "java/lang/Object", name := "<init>", desc := "()V" } : Jvm.MethodName), Jvm.Cond.fieldLink "java/lang/Throwable" (13 : Nat) "java/lang/Throwable" "UNASSIGNED_STACK" "[Ljava/lang/StackTraceElement;", Jvm.Cond.laysStatic "java/lang/Throwable" "UNASSIGNED_STACK" "[Ljava/lang/StackTraceElement;", Jvm.Cond.fieldLink "java/lang/Throwable" (20 : Nat) "java/lang/Throwable" "SUPPRESSED_SENTINEL" "Ljava/util/List;", Jvm.Cond.laysStatic "java/lang/Throwable" "SUPPRESSED_SENTINEL" "Ljava/util/List;", Jvm.Cond.methodLink "java/lang/Throwable" (27 : Nat) ({ cls := "java/lang/Throwable", name := "fillInStackTrace", desc := "()Ljava/lang/Throwable;" } : Jvm.MethodName), Jvm.Cond.instanceMethod ({ cls := "java/lang/Throwable", name := "fillInStackTrace", desc := "()Ljava/lang/Throwable;" } : Jvm.MethodName), Jvm.Cond.sameMethod "java/lang/Throwable" "java/lang/Throwable" "fillInStackTrace" "()Ljava/lang/Throwable;"]
set_option maxRecDepth 100000 in
theorem ztq_3 : tables_1_3 = zl_3_0 ++ (zl_3_1 ++ (zl_3_2 ++ (zl_3_3 ++ (zl_3_4 ++ (zl_3_5 ++ (zl_3_6 ++ (zl_3_7 ++ (zl_3_8 ++ (zl_3_9 ++ (zl_3_10 ++ (zl_3_11 ++ (zl_3_12 ++ (zl_3_13 ++ (zl_3_14)))))))))))))) := rfl
theorem zls_3_0 : ∀ w ∈ zl_3_0, w ∈ tables_1_3 := fun w hw => by
  rw [ztq_3]
  exact List.mem_append_left _ hw
def zlt_3_0 := zu_16 zls_3_0
theorem zls_3_1 : ∀ w ∈ zl_3_1, w ∈ tables_1_3 := fun w hw => by
  rw [ztq_3]
  exact List.mem_append_right _ (List.mem_append_left _ hw)
def zlt_3_1 := zu_16 zls_3_1
theorem zls_3_2 : ∀ w ∈ zl_3_2, w ∈ tables_1_3 := fun w hw => by
  rw [ztq_3]
  exact List.mem_append_right _ (List.mem_append_right _ (List.mem_append_left _ hw))
def zlt_3_2 := zu_16 zls_3_2
theorem zls_3_3 : ∀ w ∈ zl_3_3, w ∈ tables_1_3 := fun w hw => by
  rw [ztq_3]
  exact List.mem_append_right _ (List.mem_append_right _ (List.mem_append_right _ (List.mem_append_left _ hw)))
def zlt_3_3 := zu_16 zls_3_3
theorem zls_3_4 : ∀ w ∈ zl_3_4, w ∈ tables_1_3 := fun w hw => by
  rw [ztq_3]
  exact List.mem_append_right _ (List.mem_append_right _ (List.mem_append_right _ (List.mem_append_right _ (List.mem_append_left _ hw))))
def zlt_3_4 := zu_16 zls_3_4
theorem zls_3_5 : ∀ w ∈ zl_3_5, w ∈ tables_1_3 := fun w hw => by
  rw [ztq_3]
  exact List.mem_append_right _ (List.mem_append_right _ (List.mem_append_right _ (List.mem_append_right _ (List.mem_append_right _ (List.mem_append_left _ hw)))))
def zlt_3_5 := zu_16 zls_3_5
theorem zls_3_6 : ∀ w ∈ zl_3_6, w ∈ tables_1_3 := fun w hw => by
  rw [ztq_3]
  exact List.mem_append_right _ (List.mem_append_right _ (List.mem_append_right _ (List.mem_append_right _ (List.mem_append_right _ (List.mem_append_right _ (List.mem_append_left _ hw))))))
def zlt_3_6 := zu_16 zls_3_6
theorem zls_3_7 : ∀ w ∈ zl_3_7, w ∈ tables_1_3 := fun w hw => by
  rw [ztq_3]
  exact List.mem_append_right _ (List.mem_append_right _ (List.mem_append_right _ (List.mem_append_right _ (List.mem_append_right _ (List.mem_append_right _ (List.mem_append_right _ (List.mem_append_left _ hw)))))))
def zlt_3_7 := zu_16 zls_3_7
theorem zls_3_8 : ∀ w ∈ zl_3_8, w ∈ tables_1_3 := fun w hw => by
  rw [ztq_3]
  exact List.mem_append_right _ (List.mem_append_right _ (List.mem_append_right _ (List.mem_append_right _ (List.mem_append_right _ (List.mem_append_right _ (List.mem_append_right _ (List.mem_append_right _ (List.mem_append_left _ hw))))))))
def zlt_3_8 := zu_16 zls_3_8
theorem zls_3_9 : ∀ w ∈ zl_3_9, w ∈ tables_1_3 := fun w hw => by
  rw [ztq_3]
  exact List.mem_append_right _ (List.mem_append_right _ (List.mem_append_right _ (List.mem_append_right _ (List.mem_append_right _ (List.mem_append_right _ (List.mem_append_right _ (List.mem_append_right _ (List.mem_append_right _ (List.mem_append_left _ hw)))))))))
def zlt_3_9 := zu_16 zls_3_9
theorem zls_3_10 : ∀ w ∈ zl_3_10, w ∈ tables_1_3 := fun w hw => by
  rw [ztq_3]
  exact List.mem_append_right _ (List.mem_append_right _ (List.mem_append_right _ (List.mem_append_right _ (List.mem_append_right _ (List.mem_append_right _ (List.mem_append_right _ (List.mem_append_right _ (List.mem_append_right _ (List.mem_append_right _ (List.mem_append_left _ hw))))))))))
def zlt_3_10 := zu_16 zls_3_10
theorem zls_3_11 : ∀ w ∈ zl_3_11, w ∈ tables_1_3 := fun w hw => by
  rw [ztq_3]
  exact List.mem_append_right _ (List.mem_append_right _ (List.mem_append_right _ (List.mem_append_right _ (List.mem_append_right _ (List.mem_append_right _ (List.mem_append_right _ (List.mem_append_right _ (List.mem_append_right _ (List.mem_append_right _ (List.mem_append_right _ (List.mem_append_left _ hw)))))))))))
def zlt_3_11 := zu_16 zls_3_11
theorem zls_3_12 : ∀ w ∈ zl_3_12, w ∈ tables_1_3 := fun w hw => by
  rw [ztq_3]
  exact List.mem_append_right _ (List.mem_append_right _ (List.mem_append_right _ (List.mem_append_right _ (List.mem_append_right _ (List.mem_append_right _ (List.mem_append_right _ (List.mem_append_right _ (List.mem_append_right _ (List.mem_append_right _ (List.mem_append_right _ (List.mem_append_right _ (List.mem_append_left _ hw))))))))))))
def zlt_3_12 := zu_16 zls_3_12
theorem zls_3_13 : ∀ w ∈ zl_3_13, w ∈ tables_1_3 := fun w hw => by
  rw [ztq_3]
  exact List.mem_append_right _ (List.mem_append_right _ (List.mem_append_right _ (List.mem_append_right _ (List.mem_append_right _ (List.mem_append_right _ (List.mem_append_right _ (List.mem_append_right _ (List.mem_append_right _ (List.mem_append_right _ (List.mem_append_right _ (List.mem_append_right _ (List.mem_append_right _ (List.mem_append_left _ hw)))))))))))))
def zlt_3_13 := zu_16 zls_3_13
theorem zls_3_14 : ∀ w ∈ zl_3_14, w ∈ tables_1_3 := fun w hw => by
  rw [ztq_3]
  exact List.mem_append_right _ (List.mem_append_right _ (List.mem_append_right _ (List.mem_append_right _ (List.mem_append_right _ (List.mem_append_right _ (List.mem_append_right _ (List.mem_append_right _ (List.mem_append_right _ (List.mem_append_right _ (List.mem_append_right _ (List.mem_append_right _ (List.mem_append_right _ (List.mem_append_right _ (hw))))))))))))))
def zlt_3_14 := zu_16 zls_3_14
theorem z_mt4 {w : Cond} (h : w ∈ tables_1_4) (hg : goodWord w = true) : w ∈ za_Ts := List.mem_filter.mpr ⟨List.mem_append_right _ (show w ∈ tables_1 from List.mem_append_right _ (List.mem_append_right _ (List.mem_append_right _ (List.mem_append_left _ (h))))), hg⟩
abbrev zl_4_0 : List Cond := [Jvm.Cond.selects "java/lang/IllegalStateException" ({ cls := "java/lang/Throwable", name := "fillInStackTrace", desc := "()Ljava/lang/Throwable;" } : Jvm.MethodName) ({ cls := "java/lang/Throwable", name := "fillInStackTrace", desc := "()Ljava/lang/Throwable;" } : Jvm.MethodName), Jvm.Cond.selects "java/lang/IndexOutOfBoundsException" ({ cls := "java/lang/Throwable", name := "fillInStackTrace", desc := "()Ljava/lang/Throwable;" } : Jvm.MethodName) ({ cls := "java/lang/Throwable", name := "fillInStackTrace", desc := "()Ljava/lang/Throwable;" } : Jvm.MethodName), Jvm.Cond.selects "java/util/NoSuchElementException" ({ cls := "java/lang/Throwable", name := "fillInStackTrace", desc := "()Ljava/lang/Throwable;" } : Jvm.MethodName) ({ cls := "java/lang/Throwable", name := "fillInStackTrace", desc := "()Ljava/lang/Throwable;" } : Jvm.MethodName), Jvm.Cond.codeSync ({ cls := "java/lang/Throwable", name := "fillInStackTrace", desc := "()Ljava/lang/Throwable;" } : Jvm.MethodName) prog_23_method_18_code (1 : Nat) (Option.some (Jvm.ClassFile.FieldType.object "java/lang/Throwable")), Jvm.Cond.methodLink "java/lang/Throwable" (202 : Nat) ({ cls := "java/lang/Throwable", name := "fillInStackTrace", desc := "(I)Ljava/lang/Throwable;" } : Jvm.MethodName), Jvm.Cond.privateMethod ({ cls := "java/lang/Throwable", name := "fillInStackTrace", desc := "(I)Ljava/lang/Throwable;" } : Jvm.MethodName), Jvm.Cond.instanceMethod ({ cls := "java/lang/Throwable", name := "fillInStackTrace", desc := "(I)Ljava/lang/Throwable;" } : Jvm.MethodName), Jvm.Cond.instantiable "java/lang/Throwable" (6 : Nat), Jvm.Cond.native ({ cls := "java/lang/Throwable", name := "fillInStackTrace", desc := "(I)Ljava/lang/Throwable;" } : Jvm.MethodName), Jvm.Cond.stringRef "LyndonBench" (79 : Nat) "the input buffer is not so long", Jvm.Cond.methodLink "LyndonBench" (81 : Nat) ({ cls := "java/lang/IllegalArgumentException", name := "<init>", desc := "(Ljava/lang/String;)V" } : Jvm.MethodName), Jvm.Cond.instanceMethod ({ cls := "java/lang/IllegalArgumentException", name := "<init>", desc := "(Ljava/lang/String;)V" } : Jvm.MethodName), Jvm.Cond.code ({ cls := "java/lang/IllegalArgumentException", name := "<init>", desc := "(Ljava/lang/String;)V" } : Jvm.MethodName) prog_15_method_2_code (2 : Nat) (Option.none : Option Jvm.ClassFile.FieldType), Jvm.Cond.methodLink "java/lang/IllegalArgumentException" (7 : Nat) ({ cls := "java/lang/RuntimeException", name := "<init>", desc := "(Ljava/lang/String;)V" } : Jvm.MethodName), Jvm.Cond.instanceMethod ({ cls := "java/lang/RuntimeException", name := "<init>", desc := "(Ljava/lang/String;)V" } : Jvm.MethodName), Jvm.Cond.code ({ cls := "java/lang/RuntimeException", name := "<init>", desc := "(Ljava/lang/String;)V" } : Jvm.MethodName) prog_19_method_2_code (2 : Nat) (Option.none : Option Jvm.ClassFile.FieldType)]
abbrev zl_4_1 : List Cond := [Jvm.Cond.methodLink "java/lang/RuntimeException" (7 : Nat) ({ cls := "java/lang/Exception", name := "<init>", desc := "(Ljava/lang/String;)V" } : Jvm.MethodName), Jvm.Cond.instanceMethod ({ cls := "java/lang/Exception", name := "<init>", desc := "(Ljava/lang/String;)V" } : Jvm.MethodName), Jvm.Cond.code ({ cls := "java/lang/Exception", name := "<init>", desc := "(Ljava/lang/String;)V" } : Jvm.MethodName) prog_14_method_2_code (2 : Nat) (Option.none : Option Jvm.ClassFile.FieldType), Jvm.Cond.methodLink "java/lang/Exception" (7 : Nat) ({ cls := "java/lang/Throwable", name := "<init>", desc := "(Ljava/lang/String;)V" } : Jvm.MethodName), Jvm.Cond.instanceMethod ({ cls := "java/lang/Throwable", name := "<init>", desc := "(Ljava/lang/String;)V" } : Jvm.MethodName), Jvm.Cond.code ({ cls := "java/lang/Throwable", name := "<init>", desc := "(Ljava/lang/String;)V" } : Jvm.MethodName) prog_23_method_2_code (2 : Nat) (Option.none : Option Jvm.ClassFile.FieldType), Jvm.Cond.fieldLink "java/lang/Throwable" (198 : Nat) "java/lang/Throwable" "backtrace" "Ljava/lang/Object;", Jvm.Cond.fieldLink "java/lang/Throwable" (31 : Nat) "java/lang/Throwable" "detailMessage" "Ljava/lang/String;", Jvm.Cond.fieldLink "java/lang/Throwable" (7 : Nat) "java/lang/Throwable" "cause" "Ljava/lang/Throwable;", Jvm.Cond.fieldLink "java/lang/Throwable" (17 : Nat) "java/lang/Throwable" "stackTrace" "[Ljava/lang/StackTraceElement;", Jvm.Cond.fieldLink "java/lang/Throwable" (24 : Nat) "java/lang/Throwable" "suppressedExceptions" "Ljava/util/List;", Jvm.Cond.soleField "java/lang/Throwable" "backtrace", Jvm.Cond.soleField "java/lang/Throwable" "detailMessage", Jvm.Cond.soleField "java/lang/Throwable" "cause", Jvm.Cond.soleField "java/lang/Throwable" "stackTrace", Jvm.Cond.lays "java/lang/IllegalArgumentException" "java/lang/Throwable" "depth" "I"]
abbrev zl_4_2 : List Cond := [Jvm.Cond.soleField "java/lang/Throwable" "depth", Jvm.Cond.soleField "java/lang/Throwable" "suppressedExceptions", Jvm.Cond.superclass "java/lang/IllegalArgumentException" "java/lang/RuntimeException", Jvm.Cond.methodLink "LyndonBench" (83 : Nat) ({ cls := "LyndonBench$Word", name := "shortenTo", desc := "(I)V" } : Jvm.MethodName), Jvm.Cond.methodLink "LyndonBenchLaw" (119 : Nat) ({ cls := "LyndonBenchLaw", name := "setLetters", desc := "(LLyndonBench;I[J)I" } : Jvm.MethodName), Jvm.Cond.static ({ cls := "LyndonBenchLaw", name := "setLetters", desc := "(LLyndonBench;I[J)I" } : Jvm.MethodName), Jvm.Cond.codeWith ({ cls := "LyndonBenchLaw", name := "setLetters", desc := "(LLyndonBench;I[J)I" } : Jvm.MethodName) method_4_code (4 : Nat) (Option.some Jvm.ClassFile.FieldType.int) [((0 : Nat), (9 : Nat), (12 : Nat), (13 : Nat)), ((0 : Nat), (9 : Nat), (15 : Nat), (18 : Nat))], Jvm.Cond.classLink "LyndonBenchLaw" (18 : Nat) "java/lang/IllegalStateException", Jvm.Cond.methodLink "LyndonBenchLaw" (15 : Nat) ({ cls := "LyndonBench", name := "setLetters", desc := "(I)I" } : Jvm.MethodName), Jvm.Cond.instanceMethod ({ cls := "LyndonBench", name := "setLetters", desc := "(I)I" } : Jvm.MethodName), Jvm.Cond.selects "LyndonBench" ({ cls := "LyndonBench", name := "setLetters", desc := "(I)I" } : Jvm.MethodName) ({ cls := "LyndonBench", name := "setLetters", desc := "(I)I" } : Jvm.MethodName), Jvm.Cond.code ({ cls := "LyndonBench", name := "setLetters", desc := "(I)I" } : Jvm.MethodName) prog_1_method_5_code (3 : Nat) (Option.some Jvm.ClassFile.FieldType.int), Jvm.Cond.stringRef "LyndonBench" (102 : Nat) "there are 2 to 9 letters", Jvm.Cond.methodLink "LyndonBench" (104 : Nat) ({ cls := "LyndonBench$State", name := "fitsLetters", desc := "(I)Z" } : Jvm.MethodName), Jvm.Cond.instanceMethod ({ cls := "LyndonBench$State", name := "fitsLetters", desc := "(I)Z" } : Jvm.MethodName), Jvm.Cond.selects "LyndonBench$State" ({ cls := "LyndonBench$State", name := "fitsLetters", desc := "(I)Z" } : Jvm.MethodName) ({ cls := "LyndonBench$State", name := "fitsLetters", desc := "(I)Z" } : Jvm.MethodName)]
abbrev zl_4_3 : List Cond := [Jvm.Cond.code ({ cls := "LyndonBench$State", name := "fitsLetters", desc := "(I)Z" } : Jvm.MethodName) prog_6_method_6_code (4 : Nat) (Option.some Jvm.ClassFile.FieldType.boolean), Jvm.Cond.methodLink "LyndonBench$State" (49 : Nat) ({ cls := "LyndonBench$Word", name := "fitsLetters", desc := "(I)Z" } : Jvm.MethodName), Jvm.Cond.instanceMethod ({ cls := "LyndonBench$Word", name := "fitsLetters", desc := "(I)Z" } : Jvm.MethodName), Jvm.Cond.selects "LyndonBench$Word" ({ cls := "LyndonBench$Word", name := "fitsLetters", desc := "(I)Z" } : Jvm.MethodName) ({ cls := "LyndonBench$Word", name := "fitsLetters", desc := "(I)Z" } : Jvm.MethodName), Jvm.Cond.code ({ cls := "LyndonBench$Word", name := "fitsLetters", desc := "(I)Z" } : Jvm.MethodName) prog_7_method_15_code (3 : Nat) (Option.some Jvm.ClassFile.FieldType.boolean), Jvm.Cond.classLink "LyndonBench" (108 : Nat) "java/lang/IllegalStateException", Jvm.Cond.instantiable "java/lang/IllegalStateException" (6 : Nat), Jvm.Cond.castable "java/lang/IllegalStateException" "java/lang/IllegalStateException", Jvm.Cond.selects "java/lang/IllegalStateException" ({ cls := "java/lang/Throwable", name := "fillInStackTrace", desc := "(I)Ljava/lang/Throwable;" } : Jvm.MethodName) ({ cls := "java/lang/Throwable", name := "fillInStackTrace", desc := "(I)Ljava/lang/Throwable;" } : Jvm.MethodName), Jvm.Cond.lays "java/lang/IllegalStateException" "java/lang/Throwable" "cause" "Ljava/lang/Throwable;", Jvm.Cond.lays "java/lang/IllegalStateException" "java/lang/Throwable" "stackTrace" "[Ljava/lang/StackTraceElement;", Jvm.Cond.lays "java/lang/IllegalStateException" "java/lang/Throwable" "suppressedExceptions" "Ljava/util/List;", Jvm.Cond.lays "java/lang/IllegalStateException" "java/lang/Throwable" "detailMessage" "Ljava/lang/String;", Jvm.Cond.lays "java/lang/IllegalStateException" "java/lang/Throwable" "backtrace" "Ljava/lang/Object;", Jvm.Cond.stringRef "LyndonBench" (110 : Nat) "a letter is still used", Jvm.Cond.methodLink "LyndonBench" (112 : Nat) ({ cls := "java/lang/IllegalStateException", name := "<init>", desc := "(Ljava/lang/String;)V" } : Jvm.MethodName)]
abbrev zl_4_4 : List Cond := [Jvm.Cond.instanceMethod ({ cls := "java/lang/IllegalStateException", name := "<init>", desc := "(Ljava/lang/String;)V" } : Jvm.MethodName), Jvm.Cond.code ({ cls := "java/lang/IllegalStateException", name := "<init>", desc := "(Ljava/lang/String;)V" } : Jvm.MethodName) prog_16_method_2_code (2 : Nat) (Option.none : Option Jvm.ClassFile.FieldType), Jvm.Cond.methodLink "java/lang/IllegalStateException" (7 : Nat) ({ cls := "java/lang/RuntimeException", name := "<init>", desc := "(Ljava/lang/String;)V" } : Jvm.MethodName), Jvm.Cond.lays "java/lang/IllegalStateException" "java/lang/Throwable" "depth" "I", Jvm.Cond.superclass "java/lang/IllegalStateException" "java/lang/RuntimeException", Jvm.Cond.methodLink "LyndonBenchLaw" (122 : Nat) ({ cls := "LyndonBenchLaw", name := "readText", desc := "(LLyndonBench;[J)I" } : Jvm.MethodName), Jvm.Cond.static ({ cls := "LyndonBenchLaw", name := "readText", desc := "(LLyndonBench;[J)I" } : Jvm.MethodName), Jvm.Cond.codeWith ({ cls := "LyndonBenchLaw", name := "readText", desc := "(LLyndonBench;[J)I" } : Jvm.MethodName) method_5_code (3 : Nat) (Option.some Jvm.ClassFile.FieldType.int) [((0 : Nat), (8 : Nat), (11 : Nat), (18 : Nat))], Jvm.Cond.methodLink "LyndonBenchLaw" (20 : Nat) ({ cls := "LyndonBench", name := "readText", desc := "()I" } : Jvm.MethodName), Jvm.Cond.instanceMethod ({ cls := "LyndonBench", name := "readText", desc := "()I" } : Jvm.MethodName), Jvm.Cond.selects "LyndonBench" ({ cls := "LyndonBench", name := "readText", desc := "()I" } : Jvm.MethodName) ({ cls := "LyndonBench", name := "readText", desc := "()I" } : Jvm.MethodName), Jvm.Cond.code ({ cls := "LyndonBench", name := "readText", desc := "()I" } : Jvm.MethodName) prog_1_method_6_code (4 : Nat) (Option.some Jvm.ClassFile.FieldType.int), Jvm.Cond.methodLink "LyndonBench" (120 : Nat) ({ cls := "LyndonBench$State", name := "isLetter", desc := "(I)Z" } : Jvm.MethodName), Jvm.Cond.stringRef "LyndonBench" (123 : Nat) "a text has at most 120 letters", Jvm.Cond.methodLink "LyndonBenchLaw" (126 : Nat) ({ cls := "LyndonBenchLaw", name := "appendLetter", desc := "(LLyndonBench;I[J)I" } : Jvm.MethodName), Jvm.Cond.static ({ cls := "LyndonBenchLaw", name := "appendLetter", desc := "(LLyndonBench;I[J)I" } : Jvm.MethodName)]
abbrev zl_4_5 : List Cond := [Jvm.Cond.codeWith ({ cls := "LyndonBenchLaw", name := "appendLetter", desc := "(LLyndonBench;I[J)I" } : Jvm.MethodName) method_6_code (4 : Nat) (Option.some Jvm.ClassFile.FieldType.int) [((0 : Nat), (9 : Nat), (12 : Nat), (13 : Nat)), ((0 : Nat), (9 : Nat), (15 : Nat), (18 : Nat))], Jvm.Cond.methodLink "LyndonBenchLaw" (24 : Nat) ({ cls := "LyndonBench", name := "appendLetter", desc := "(I)I" } : Jvm.MethodName), Jvm.Cond.instanceMethod ({ cls := "LyndonBench", name := "appendLetter", desc := "(I)I" } : Jvm.MethodName), Jvm.Cond.selects "LyndonBench" ({ cls := "LyndonBench", name := "appendLetter", desc := "(I)I" } : Jvm.MethodName) ({ cls := "LyndonBench", name := "appendLetter", desc := "(I)I" } : Jvm.MethodName), Jvm.Cond.code ({ cls := "LyndonBench", name := "appendLetter", desc := "(I)I" } : Jvm.MethodName) prog_1_method_7_code (2 : Nat) (Option.some Jvm.ClassFile.FieldType.int), Jvm.Cond.methodLink "LyndonBench" (128 : Nat) ({ cls := "LyndonBench", name := "checkLetter", desc := "(I)V" } : Jvm.MethodName), Jvm.Cond.privateMethod ({ cls := "LyndonBench", name := "checkLetter", desc := "(I)V" } : Jvm.MethodName), Jvm.Cond.instanceMethod ({ cls := "LyndonBench", name := "checkLetter", desc := "(I)V" } : Jvm.MethodName), Jvm.Cond.code ({ cls := "LyndonBench", name := "checkLetter", desc := "(I)V" } : Jvm.MethodName) prog_1_method_61_code (2 : Nat) (Option.none : Option Jvm.ClassFile.FieldType), Jvm.Cond.stringRef "LyndonBench" (295 : Nat) "this is not one of the letters", Jvm.Cond.methodLink "LyndonBenchLaw" (129 : Nat) ({ cls := "LyndonBenchLaw", name := "dropLast", desc := "(LLyndonBench;I[J)I" } : Jvm.MethodName), Jvm.Cond.static ({ cls := "LyndonBenchLaw", name := "dropLast", desc := "(LLyndonBench;I[J)I" } : Jvm.MethodName), Jvm.Cond.codeWith ({ cls := "LyndonBenchLaw", name := "dropLast", desc := "(LLyndonBench;I[J)I" } : Jvm.MethodName) method_7_code (4 : Nat) (Option.some Jvm.ClassFile.FieldType.int) [((0 : Nat), (9 : Nat), (12 : Nat), (13 : Nat))], Jvm.Cond.methodLink "LyndonBenchLaw" (27 : Nat) ({ cls := "LyndonBench", name := "dropLast", desc := "(I)I" } : Jvm.MethodName), Jvm.Cond.instanceMethod ({ cls := "LyndonBench", name := "dropLast", desc := "(I)I" } : Jvm.MethodName), Jvm.Cond.selects "LyndonBench" ({ cls := "LyndonBench", name := "dropLast", desc := "(I)I" } : Jvm.MethodName) ({ cls := "LyndonBench", name := "dropLast", desc := "(I)I" } : Jvm.MethodName)]
abbrev zl_4_6 : List Cond := [Jvm.Cond.code ({ cls := "LyndonBench", name := "dropLast", desc := "(I)I" } : Jvm.MethodName) prog_1_method_8_code (2 : Nat) (Option.some Jvm.ClassFile.FieldType.int), Jvm.Cond.methodLink "LyndonBench" (138 : Nat) ({ cls := "LyndonBench", name := "checkCount", desc := "(I)V" } : Jvm.MethodName), Jvm.Cond.privateMethod ({ cls := "LyndonBench", name := "checkCount", desc := "(I)V" } : Jvm.MethodName), Jvm.Cond.instanceMethod ({ cls := "LyndonBench", name := "checkCount", desc := "(I)V" } : Jvm.MethodName), Jvm.Cond.code ({ cls := "LyndonBench", name := "checkCount", desc := "(I)V" } : Jvm.MethodName) prog_1_method_62_code (2 : Nat) (Option.none : Option Jvm.ClassFile.FieldType), Jvm.Cond.stringRef "LyndonBench" (297 : Nat) "the text has not so many letters", Jvm.Cond.methodLink "LyndonBenchLaw" (132 : Nat) ({ cls := "LyndonBenchLaw", name := "cutPart", desc := "(LLyndonBench;II[J)I" } : Jvm.MethodName), Jvm.Cond.static ({ cls := "LyndonBenchLaw", name := "cutPart", desc := "(LLyndonBench;II[J)I" } : Jvm.MethodName), Jvm.Cond.codeWith ({ cls := "LyndonBenchLaw", name := "cutPart", desc := "(LLyndonBench;II[J)I" } : Jvm.MethodName) method_8_code (5 : Nat) (Option.some Jvm.ClassFile.FieldType.int) [((0 : Nat), (10 : Nat), (13 : Nat), (13 : Nat))], Jvm.Cond.methodLink "LyndonBenchLaw" (30 : Nat) ({ cls := "LyndonBench", name := "cutPart", desc := "(II)I" } : Jvm.MethodName), Jvm.Cond.instanceMethod ({ cls := "LyndonBench", name := "cutPart", desc := "(II)I" } : Jvm.MethodName), Jvm.Cond.selects "LyndonBench" ({ cls := "LyndonBench", name := "cutPart", desc := "(II)I" } : Jvm.MethodName) ({ cls := "LyndonBench", name := "cutPart", desc := "(II)I" } : Jvm.MethodName), Jvm.Cond.code ({ cls := "LyndonBench", name := "cutPart", desc := "(II)I" } : Jvm.MethodName) prog_1_method_9_code (3 : Nat) (Option.some Jvm.ClassFile.FieldType.int), Jvm.Cond.methodLink "LyndonBench" (141 : Nat) ({ cls := "LyndonBench", name := "checkPart", desc := "(II)V" } : Jvm.MethodName), Jvm.Cond.privateMethod ({ cls := "LyndonBench", name := "checkPart", desc := "(II)V" } : Jvm.MethodName), Jvm.Cond.instanceMethod ({ cls := "LyndonBench", name := "checkPart", desc := "(II)V" } : Jvm.MethodName)]
abbrev zl_4_7 : List Cond := [Jvm.Cond.code ({ cls := "LyndonBench", name := "checkPart", desc := "(II)V" } : Jvm.MethodName) prog_1_method_63_code (3 : Nat) (Option.none : Option Jvm.ClassFile.FieldType), Jvm.Cond.stringRef "LyndonBench" (299 : Nat) "the text has no such part", Jvm.Cond.methodLink "LyndonBench" (145 : Nat) ({ cls := "LyndonBench$Word", name := "cutTo", desc := "(II)V" } : Jvm.MethodName), Jvm.Cond.methodLink "LyndonBenchLaw" (136 : Nat) ({ cls := "LyndonBenchLaw", name := "rotate", desc := "(LLyndonBench;I[J)I" } : Jvm.MethodName), Jvm.Cond.static ({ cls := "LyndonBenchLaw", name := "rotate", desc := "(LLyndonBench;I[J)I" } : Jvm.MethodName), Jvm.Cond.codeWith ({ cls := "LyndonBenchLaw", name := "rotate", desc := "(LLyndonBench;I[J)I" } : Jvm.MethodName) method_9_code (4 : Nat) (Option.some Jvm.ClassFile.FieldType.int) [((0 : Nat), (9 : Nat), (12 : Nat), (13 : Nat))], Jvm.Cond.methodLink "LyndonBenchLaw" (34 : Nat) ({ cls := "LyndonBench", name := "rotate", desc := "(I)I" } : Jvm.MethodName), Jvm.Cond.instanceMethod ({ cls := "LyndonBench", name := "rotate", desc := "(I)I" } : Jvm.MethodName), Jvm.Cond.selects "LyndonBench" ({ cls := "LyndonBench", name := "rotate", desc := "(I)I" } : Jvm.MethodName) ({ cls := "LyndonBench", name := "rotate", desc := "(I)I" } : Jvm.MethodName), Jvm.Cond.code ({ cls := "LyndonBench", name := "rotate", desc := "(I)I" } : Jvm.MethodName) prog_1_method_10_code (2 : Nat) (Option.some Jvm.ClassFile.FieldType.int), Jvm.Cond.methodLink "LyndonBench" (148 : Nat) ({ cls := "LyndonBench$Word", name := "turn", desc := "(I)V" } : Jvm.MethodName), Jvm.Cond.methodLink "LyndonBenchLaw" (143 : Nat) ({ cls := "LyndonBenchLaw", name := "rotateToLeast", desc := "(LLyndonBench;[J)I" } : Jvm.MethodName), Jvm.Cond.static ({ cls := "LyndonBenchLaw", name := "rotateToLeast", desc := "(LLyndonBench;[J)I" } : Jvm.MethodName), Jvm.Cond.codeWith ({ cls := "LyndonBenchLaw", name := "rotateToLeast", desc := "(LLyndonBench;[J)I" } : Jvm.MethodName) method_10_code (3 : Nat) (Option.some Jvm.ClassFile.FieldType.int) [((0 : Nat), (8 : Nat), (11 : Nat), (18 : Nat))], Jvm.Cond.methodLink "LyndonBenchLaw" (37 : Nat) ({ cls := "LyndonBench", name := "rotateToLeast", desc := "()I" } : Jvm.MethodName), Jvm.Cond.instanceMethod ({ cls := "LyndonBench", name := "rotateToLeast", desc := "()I" } : Jvm.MethodName)]
abbrev zl_4_8 : List Cond := [Jvm.Cond.selects "LyndonBench" ({ cls := "LyndonBench", name := "rotateToLeast", desc := "()I" } : Jvm.MethodName) ({ cls := "LyndonBench", name := "rotateToLeast", desc := "()I" } : Jvm.MethodName), Jvm.Cond.code ({ cls := "LyndonBench", name := "rotateToLeast", desc := "()I" } : Jvm.MethodName) prog_1_method_12_code (2 : Nat) (Option.some Jvm.ClassFile.FieldType.int), Jvm.Cond.stringRef "LyndonBench" (154 : Nat) "the text is empty", Jvm.Cond.methodLink "LyndonBenchLaw" (146 : Nat) ({ cls := "LyndonBenchLaw", name := "nextLyndon", desc := "(LLyndonBench;I[J)I" } : Jvm.MethodName), Jvm.Cond.static ({ cls := "LyndonBenchLaw", name := "nextLyndon", desc := "(LLyndonBench;I[J)I" } : Jvm.MethodName), Jvm.Cond.codeWith ({ cls := "LyndonBenchLaw", name := "nextLyndon", desc := "(LLyndonBench;I[J)I" } : Jvm.MethodName) method_11_code (4 : Nat) (Option.some Jvm.ClassFile.FieldType.int) [((0 : Nat), (9 : Nat), (12 : Nat), (13 : Nat)), ((0 : Nat), (9 : Nat), (15 : Nat), (18 : Nat))], Jvm.Cond.methodLink "LyndonBenchLaw" (40 : Nat) ({ cls := "LyndonBench", name := "nextLyndon", desc := "(I)I" } : Jvm.MethodName), Jvm.Cond.instanceMethod ({ cls := "LyndonBench", name := "nextLyndon", desc := "(I)I" } : Jvm.MethodName), Jvm.Cond.selects "LyndonBench" ({ cls := "LyndonBench", name := "nextLyndon", desc := "(I)I" } : Jvm.MethodName) ({ cls := "LyndonBench", name := "nextLyndon", desc := "(I)I" } : Jvm.MethodName), Jvm.Cond.code ({ cls := "LyndonBench", name := "nextLyndon", desc := "(I)I" } : Jvm.MethodName) prog_1_method_13_code (2 : Nat) (Option.some Jvm.ClassFile.FieldType.int), Jvm.Cond.stringRef "LyndonBench" (159 : Nat) "the greatest length is 1 to 120", Jvm.Cond.methodLink "LyndonBench" (161 : Nat) ({ cls := "LyndonBench$State", name := "hasNext", desc := "(I)Z" } : Jvm.MethodName), Jvm.Cond.stringRef "LyndonBench" (164 : Nat) "there is no next Lyndon word", Jvm.Cond.methodLink "LyndonBench" (166 : Nat) ({ cls := "LyndonBench$State", name := "greatestLetter", desc := "()I" } : Jvm.MethodName), Jvm.Cond.methodLink "LyndonBench" (169 : Nat) ({ cls := "LyndonBench$Word", name := "stepLyndon", desc := "(II)V" } : Jvm.MethodName), Jvm.Cond.methodLink "LyndonBenchLaw" (149 : Nat) ({ cls := "LyndonBenchLaw", name := "keepFactor", desc := "(LLyndonBench;I[J)I" } : Jvm.MethodName)]
abbrev zl_4_9 : List Cond := [Jvm.Cond.static ({ cls := "LyndonBenchLaw", name := "keepFactor", desc := "(LLyndonBench;I[J)I" } : Jvm.MethodName), Jvm.Cond.codeWith ({ cls := "LyndonBenchLaw", name := "keepFactor", desc := "(LLyndonBench;I[J)I" } : Jvm.MethodName) method_12_code (4 : Nat) (Option.some Jvm.ClassFile.FieldType.int) [((0 : Nat), (9 : Nat), (12 : Nat), (46 : Nat)), ((0 : Nat), (9 : Nat), (15 : Nat), (18 : Nat))], Jvm.Cond.classLink "LyndonBenchLaw" (46 : Nat) "java/lang/IndexOutOfBoundsException", Jvm.Cond.methodLink "LyndonBenchLaw" (43 : Nat) ({ cls := "LyndonBench", name := "keepFactor", desc := "(I)I" } : Jvm.MethodName), Jvm.Cond.instanceMethod ({ cls := "LyndonBench", name := "keepFactor", desc := "(I)I" } : Jvm.MethodName), Jvm.Cond.selects "LyndonBench" ({ cls := "LyndonBench", name := "keepFactor", desc := "(I)I" } : Jvm.MethodName) ({ cls := "LyndonBench", name := "keepFactor", desc := "(I)I" } : Jvm.MethodName), Jvm.Cond.code ({ cls := "LyndonBench", name := "keepFactor", desc := "(I)I" } : Jvm.MethodName) prog_1_method_14_code (4 : Nat) (Option.some Jvm.ClassFile.FieldType.int), Jvm.Cond.methodLink "LyndonBench" (172 : Nat) ({ cls := "LyndonBench", name := "checkedBegin", desc := "(I)I" } : Jvm.MethodName), Jvm.Cond.privateMethod ({ cls := "LyndonBench", name := "checkedBegin", desc := "(I)I" } : Jvm.MethodName), Jvm.Cond.instanceMethod ({ cls := "LyndonBench", name := "checkedBegin", desc := "(I)I" } : Jvm.MethodName), Jvm.Cond.code ({ cls := "LyndonBench", name := "checkedBegin", desc := "(I)I" } : Jvm.MethodName) prog_1_method_65_code (3 : Nat) (Option.some Jvm.ClassFile.FieldType.int), Jvm.Cond.methodLink "LyndonBench" (303 : Nat) ({ cls := "LyndonBench$Word", name := "beginOfFactor", desc := "(I)I" } : Jvm.MethodName), Jvm.Cond.classLink "LyndonBench" (192 : Nat) "java/lang/IndexOutOfBoundsException", Jvm.Cond.instantiable "java/lang/IndexOutOfBoundsException" (6 : Nat), Jvm.Cond.castable "java/lang/IndexOutOfBoundsException" "java/lang/IndexOutOfBoundsException", Jvm.Cond.selects "java/lang/IndexOutOfBoundsException" ({ cls := "java/lang/Throwable", name := "fillInStackTrace", desc := "(I)Ljava/lang/Throwable;" } : Jvm.MethodName) ({ cls := "java/lang/Throwable", name := "fillInStackTrace", desc := "(I)Ljava/lang/Throwable;" } : Jvm.MethodName)]
abbrev zl_4_10 : List Cond := [Jvm.Cond.lays "java/lang/IndexOutOfBoundsException" "java/lang/Throwable" "cause" "Ljava/lang/Throwable;", Jvm.Cond.lays "java/lang/IndexOutOfBoundsException" "java/lang/Throwable" "stackTrace" "[Ljava/lang/StackTraceElement;", Jvm.Cond.lays "java/lang/IndexOutOfBoundsException" "java/lang/Throwable" "suppressedExceptions" "Ljava/util/List;", Jvm.Cond.lays "java/lang/IndexOutOfBoundsException" "java/lang/Throwable" "detailMessage" "Ljava/lang/String;", Jvm.Cond.lays "java/lang/IndexOutOfBoundsException" "java/lang/Throwable" "backtrace" "Ljava/lang/Object;", Jvm.Cond.stringRef "LyndonBench" (306 : Nat) "there is no such factor", Jvm.Cond.methodLink "LyndonBench" (196 : Nat) ({ cls := "java/lang/IndexOutOfBoundsException", name := "<init>", desc := "(Ljava/lang/String;)V" } : Jvm.MethodName), Jvm.Cond.instanceMethod ({ cls := "java/lang/IndexOutOfBoundsException", name := "<init>", desc := "(Ljava/lang/String;)V" } : Jvm.MethodName), Jvm.Cond.code ({ cls := "java/lang/IndexOutOfBoundsException", name := "<init>", desc := "(Ljava/lang/String;)V" } : Jvm.MethodName) prog_17_method_2_code (2 : Nat) (Option.none : Option Jvm.ClassFile.FieldType), Jvm.Cond.methodLink "java/lang/IndexOutOfBoundsException" (7 : Nat) ({ cls := "java/lang/RuntimeException", name := "<init>", desc := "(Ljava/lang/String;)V" } : Jvm.MethodName), Jvm.Cond.lays "java/lang/IndexOutOfBoundsException" "java/lang/Throwable" "depth" "I", Jvm.Cond.superclass "java/lang/IndexOutOfBoundsException" "java/lang/RuntimeException", Jvm.Cond.methodLink "LyndonBench" (178 : Nat) ({ cls := "LyndonBench$State", name := "canKeep", desc := "(I)Z" } : Jvm.MethodName), Jvm.Cond.stringRef "LyndonBench" (181 : Nat) "the factor can't be kept", Jvm.Cond.methodLink "LyndonBenchLaw" (152 : Nat) ({ cls := "LyndonBenchLaw", name := "keepText", desc := "(LLyndonBench;[J)I" } : Jvm.MethodName), Jvm.Cond.static ({ cls := "LyndonBenchLaw", name := "keepText", desc := "(LLyndonBench;[J)I" } : Jvm.MethodName)]
abbrev zl_4_11 : List Cond := [Jvm.Cond.codeWith ({ cls := "LyndonBenchLaw", name := "keepText", desc := "(LLyndonBench;[J)I" } : Jvm.MethodName) method_13_code (3 : Nat) (Option.some Jvm.ClassFile.FieldType.int) [((0 : Nat), (8 : Nat), (11 : Nat), (18 : Nat))], Jvm.Cond.methodLink "LyndonBenchLaw" (48 : Nat) ({ cls := "LyndonBench", name := "keepText", desc := "()I" } : Jvm.MethodName), Jvm.Cond.instanceMethod ({ cls := "LyndonBench", name := "keepText", desc := "()I" } : Jvm.MethodName), Jvm.Cond.selects "LyndonBench" ({ cls := "LyndonBench", name := "keepText", desc := "()I" } : Jvm.MethodName) ({ cls := "LyndonBench", name := "keepText", desc := "()I" } : Jvm.MethodName), Jvm.Cond.code ({ cls := "LyndonBench", name := "keepText", desc := "()I" } : Jvm.MethodName) prog_1_method_15_code (1 : Nat) (Option.some Jvm.ClassFile.FieldType.int), Jvm.Cond.stringRef "LyndonBench" (186 : Nat) "the text can't be kept", Jvm.Cond.methodLink "LyndonBenchLaw" (155 : Nat) ({ cls := "LyndonBenchLaw", name := "removeKept", desc := "(LLyndonBench;I[J)I" } : Jvm.MethodName), Jvm.Cond.static ({ cls := "LyndonBenchLaw", name := "removeKept", desc := "(LLyndonBench;I[J)I" } : Jvm.MethodName), Jvm.Cond.codeWith ({ cls := "LyndonBenchLaw", name := "removeKept", desc := "(LLyndonBench;I[J)I" } : Jvm.MethodName) method_14_code (4 : Nat) (Option.some Jvm.ClassFile.FieldType.int) [((0 : Nat), (9 : Nat), (12 : Nat), (46 : Nat))], Jvm.Cond.methodLink "LyndonBenchLaw" (51 : Nat) ({ cls := "LyndonBench", name := "removeKept", desc := "(I)I" } : Jvm.MethodName), Jvm.Cond.instanceMethod ({ cls := "LyndonBench", name := "removeKept", desc := "(I)I" } : Jvm.MethodName), Jvm.Cond.selects "LyndonBench" ({ cls := "LyndonBench", name := "removeKept", desc := "(I)I" } : Jvm.MethodName) ({ cls := "LyndonBench", name := "removeKept", desc := "(I)I" } : Jvm.MethodName), Jvm.Cond.code ({ cls := "LyndonBench", name := "removeKept", desc := "(I)I" } : Jvm.MethodName) prog_1_method_16_code (2 : Nat) (Option.some Jvm.ClassFile.FieldType.int), Jvm.Cond.stringRef "LyndonBench" (194 : Nat) "there is no such kept word", Jvm.Cond.methodLink "LyndonBench" (197 : Nat) ({ cls := "LyndonBench$State", name := "takeFromShelf", desc := "(I)V" } : Jvm.MethodName), Jvm.Cond.methodLink "LyndonBenchLaw" (158 : Nat) ({ cls := "LyndonBenchLaw", name := "joinKept", desc := "(LLyndonBench;[J)I" } : Jvm.MethodName)]
abbrev zl_4_12 : List Cond := [Jvm.Cond.static ({ cls := "LyndonBenchLaw", name := "joinKept", desc := "(LLyndonBench;[J)I" } : Jvm.MethodName), Jvm.Cond.codeWith ({ cls := "LyndonBenchLaw", name := "joinKept", desc := "(LLyndonBench;[J)I" } : Jvm.MethodName) method_15_code (3 : Nat) (Option.some Jvm.ClassFile.FieldType.int) [((0 : Nat), (8 : Nat), (11 : Nat), (18 : Nat))], Jvm.Cond.methodLink "LyndonBenchLaw" (54 : Nat) ({ cls := "LyndonBench", name := "joinKept", desc := "()I" } : Jvm.MethodName), Jvm.Cond.instanceMethod ({ cls := "LyndonBench", name := "joinKept", desc := "()I" } : Jvm.MethodName), Jvm.Cond.selects "LyndonBench" ({ cls := "LyndonBench", name := "joinKept", desc := "()I" } : Jvm.MethodName) ({ cls := "LyndonBench", name := "joinKept", desc := "()I" } : Jvm.MethodName), Jvm.Cond.code ({ cls := "LyndonBench", name := "joinKept", desc := "()I" } : Jvm.MethodName) prog_1_method_17_code (1 : Nat) (Option.some Jvm.ClassFile.FieldType.int), Jvm.Cond.methodLink "LyndonBench" (200 : Nat) ({ cls := "LyndonBench$State", name := "canJoin", desc := "()Z" } : Jvm.MethodName), Jvm.Cond.stringRef "LyndonBench" (203 : Nat) "the kept words can't be joined", Jvm.Cond.methodLink "LyndonBench" (205 : Nat) ({ cls := "LyndonBench$State", name := "joinShelf", desc := "()V" } : Jvm.MethodName), Jvm.Cond.methodLink "LyndonBenchLaw" (173 : Nat) ({ cls := "LyndonBenchLaw", name := "restoreSnapshot", desc := "(LLyndonBench;[J)I" } : Jvm.MethodName), Jvm.Cond.static ({ cls := "LyndonBenchLaw", name := "restoreSnapshot", desc := "(LLyndonBench;[J)I" } : Jvm.MethodName), Jvm.Cond.codeWith ({ cls := "LyndonBenchLaw", name := "restoreSnapshot", desc := "(LLyndonBench;[J)I" } : Jvm.MethodName) method_16_code (3 : Nat) (Option.some Jvm.ClassFile.FieldType.int) [((0 : Nat), (8 : Nat), (11 : Nat), (60 : Nat))], Jvm.Cond.classLink "LyndonBenchLaw" (60 : Nat) "java/util/NoSuchElementException", Jvm.Cond.methodLink "LyndonBenchLaw" (57 : Nat) ({ cls := "LyndonBench", name := "restoreSnapshot", desc := "()I" } : Jvm.MethodName), Jvm.Cond.instanceMethod ({ cls := "LyndonBench", name := "restoreSnapshot", desc := "()I" } : Jvm.MethodName), Jvm.Cond.selects "LyndonBench" ({ cls := "LyndonBench", name := "restoreSnapshot", desc := "()I" } : Jvm.MethodName) ({ cls := "LyndonBench", name := "restoreSnapshot", desc := "()I" } : Jvm.MethodName)]
abbrev zl_4_13 : List Cond := [Jvm.Cond.code ({ cls := "LyndonBench", name := "restoreSnapshot", desc := "()I" } : Jvm.MethodName) prog_1_method_21_code (1 : Nat) (Option.some Jvm.ClassFile.FieldType.int), Jvm.Cond.classLink "LyndonBench" (215 : Nat) "java/util/NoSuchElementException", Jvm.Cond.instantiable "java/util/NoSuchElementException" (6 : Nat), Jvm.Cond.castable "java/util/NoSuchElementException" "java/util/NoSuchElementException", Jvm.Cond.selects "java/util/NoSuchElementException" ({ cls := "java/lang/Throwable", name := "fillInStackTrace", desc := "(I)Ljava/lang/Throwable;" } : Jvm.MethodName) ({ cls := "java/lang/Throwable", name := "fillInStackTrace", desc := "(I)Ljava/lang/Throwable;" } : Jvm.MethodName), Jvm.Cond.lays "java/util/NoSuchElementException" "java/lang/Throwable" "cause" "Ljava/lang/Throwable;", Jvm.Cond.lays "java/util/NoSuchElementException" "java/lang/Throwable" "stackTrace" "[Ljava/lang/StackTraceElement;", Jvm.Cond.lays "java/util/NoSuchElementException" "java/lang/Throwable" "suppressedExceptions" "Ljava/util/List;", Jvm.Cond.lays "java/util/NoSuchElementException" "java/lang/Throwable" "detailMessage" "Ljava/lang/String;", Jvm.Cond.lays "java/util/NoSuchElementException" "java/lang/Throwable" "backtrace" "Ljava/lang/Object;", Jvm.Cond.stringRef "LyndonBench" (217 : Nat) "no snapshot was saved", Jvm.Cond.methodLink "LyndonBench" (219 : Nat) ({ cls := "java/util/NoSuchElementException", name := "<init>", desc := "(Ljava/lang/String;)V" } : Jvm.MethodName), Jvm.Cond.instanceMethod ({ cls := "java/util/NoSuchElementException", name := "<init>", desc := "(Ljava/lang/String;)V" } : Jvm.MethodName), Jvm.Cond.code ({ cls := "java/util/NoSuchElementException", name := "<init>", desc := "(Ljava/lang/String;)V" } : Jvm.MethodName) prog_26_method_4_code (2 : Nat) (Option.none : Option Jvm.ClassFile.FieldType), Jvm.Cond.methodLink "java/util/NoSuchElementException" (13 : Nat) ({ cls := "java/lang/RuntimeException", name := "<init>", desc := "(Ljava/lang/String;)V" } : Jvm.MethodName), Jvm.Cond.lays "java/util/NoSuchElementException" "java/lang/Throwable" "depth" "I"]
abbrev zl_4_14 : List Cond := [Jvm.Cond.superclass "java/util/NoSuchElementException" "java/lang/RuntimeException", Jvm.Cond.methodLink "LyndonBenchLaw" (196 : Nat) ({ cls := "LyndonBenchLaw", name := "compareParts", desc := "(LLyndonBench;IIII[J)I" } : Jvm.MethodName), Jvm.Cond.static ({ cls := "LyndonBenchLaw", name := "compareParts", desc := "(LLyndonBench;IIII[J)I" } : Jvm.MethodName), Jvm.Cond.codeWith ({ cls := "LyndonBenchLaw", name := "compareParts", desc := "(LLyndonBench;IIII[J)I" } : Jvm.MethodName) method_17_code (7 : Nat) (Option.some Jvm.ClassFile.FieldType.int) [((0 : Nat), (14 : Nat), (17 : Nat), (13 : Nat))], Jvm.Cond.methodLink "LyndonBenchLaw" (62 : Nat) ({ cls := "LyndonBench", name := "compareParts", desc := "(IIII)I" } : Jvm.MethodName), Jvm.Cond.instanceMethod ({ cls := "LyndonBench", name := "compareParts", desc := "(IIII)I" } : Jvm.MethodName), Jvm.Cond.selects "LyndonBench" ({ cls := "LyndonBench", name := "compareParts", desc := "(IIII)I" } : Jvm.MethodName) ({ cls := "LyndonBench", name := "compareParts", desc := "(IIII)I" } : Jvm.MethodName), Jvm.Cond.code ({ cls := "LyndonBench", name := "compareParts", desc := "(IIII)I" } : Jvm.MethodName) prog_1_method_27_code (5 : Nat) (Option.some Jvm.ClassFile.FieldType.int), Jvm.Cond.methodLink "LyndonBenchLaw" (204 : Nat) ({ cls := "LyndonBenchLaw", name := "factorStart", desc := "(LLyndonBench;I[J)I" } : Jvm.MethodName), Jvm.Cond.static ({ cls := "LyndonBenchLaw", name := "factorStart", desc := "(LLyndonBench;I[J)I" } : Jvm.MethodName), Jvm.Cond.codeWith ({ cls := "LyndonBenchLaw", name := "factorStart", desc := "(LLyndonBench;I[J)I" } : Jvm.MethodName) method_18_code (4 : Nat) (Option.some Jvm.ClassFile.FieldType.int) [((0 : Nat), (9 : Nat), (12 : Nat), (46 : Nat))], Jvm.Cond.methodLink "LyndonBenchLaw" (66 : Nat) ({ cls := "LyndonBench", name := "factorStart", desc := "(I)I" } : Jvm.MethodName), Jvm.Cond.instanceMethod ({ cls := "LyndonBench", name := "factorStart", desc := "(I)I" } : Jvm.MethodName), Jvm.Cond.selects "LyndonBench" ({ cls := "LyndonBench", name := "factorStart", desc := "(I)I" } : Jvm.MethodName) ({ cls := "LyndonBench", name := "factorStart", desc := "(I)I" } : Jvm.MethodName), Jvm.Cond.code ({ cls := "LyndonBench", name := "factorStart", desc := "(I)I" } : Jvm.MethodName) prog_1_method_29_code (2 : Nat) (Option.some Jvm.ClassFile.FieldType.int), Jvm.Cond.methodLink "LyndonBenchLaw" (207 : Nat) ({ cls := "LyndonBenchLaw", name := "factorLength", desc := "(LLyndonBench;I[J)I" } : Jvm.MethodName)]
set_option maxRecDepth 100000 in
theorem ztq_4 : tables_1_4 = zl_4_0 ++ (zl_4_1 ++ (zl_4_2 ++ (zl_4_3 ++ (zl_4_4 ++ (zl_4_5 ++ (zl_4_6 ++ (zl_4_7 ++ (zl_4_8 ++ (zl_4_9 ++ (zl_4_10 ++ (zl_4_11 ++ (zl_4_12 ++ (zl_4_13 ++ (zl_4_14)))))))))))))) := rfl
theorem zls_4_0 : ∀ w ∈ zl_4_0, w ∈ tables_1_4 := fun w hw => by
  rw [ztq_4]
  exact List.mem_append_left _ hw
def zlt_4_0 := zu_16 zls_4_0
theorem zls_4_1 : ∀ w ∈ zl_4_1, w ∈ tables_1_4 := fun w hw => by
  rw [ztq_4]
  exact List.mem_append_right _ (List.mem_append_left _ hw)
def zlt_4_1 := zu_16 zls_4_1
theorem zls_4_2 : ∀ w ∈ zl_4_2, w ∈ tables_1_4 := fun w hw => by
  rw [ztq_4]
  exact List.mem_append_right _ (List.mem_append_right _ (List.mem_append_left _ hw))
def zlt_4_2 := zu_16 zls_4_2
theorem zls_4_3 : ∀ w ∈ zl_4_3, w ∈ tables_1_4 := fun w hw => by
  rw [ztq_4]
  exact List.mem_append_right _ (List.mem_append_right _ (List.mem_append_right _ (List.mem_append_left _ hw)))
def zlt_4_3 := zu_16 zls_4_3
theorem zls_4_4 : ∀ w ∈ zl_4_4, w ∈ tables_1_4 := fun w hw => by
  rw [ztq_4]
  exact List.mem_append_right _ (List.mem_append_right _ (List.mem_append_right _ (List.mem_append_right _ (List.mem_append_left _ hw))))
def zlt_4_4 := zu_16 zls_4_4
theorem zls_4_5 : ∀ w ∈ zl_4_5, w ∈ tables_1_4 := fun w hw => by
  rw [ztq_4]
  exact List.mem_append_right _ (List.mem_append_right _ (List.mem_append_right _ (List.mem_append_right _ (List.mem_append_right _ (List.mem_append_left _ hw)))))
def zlt_4_5 := zu_16 zls_4_5
theorem zls_4_6 : ∀ w ∈ zl_4_6, w ∈ tables_1_4 := fun w hw => by
  rw [ztq_4]
  exact List.mem_append_right _ (List.mem_append_right _ (List.mem_append_right _ (List.mem_append_right _ (List.mem_append_right _ (List.mem_append_right _ (List.mem_append_left _ hw))))))
def zlt_4_6 := zu_16 zls_4_6
theorem zls_4_7 : ∀ w ∈ zl_4_7, w ∈ tables_1_4 := fun w hw => by
  rw [ztq_4]
  exact List.mem_append_right _ (List.mem_append_right _ (List.mem_append_right _ (List.mem_append_right _ (List.mem_append_right _ (List.mem_append_right _ (List.mem_append_right _ (List.mem_append_left _ hw)))))))
def zlt_4_7 := zu_16 zls_4_7
theorem zls_4_8 : ∀ w ∈ zl_4_8, w ∈ tables_1_4 := fun w hw => by
  rw [ztq_4]
  exact List.mem_append_right _ (List.mem_append_right _ (List.mem_append_right _ (List.mem_append_right _ (List.mem_append_right _ (List.mem_append_right _ (List.mem_append_right _ (List.mem_append_right _ (List.mem_append_left _ hw))))))))
def zlt_4_8 := zu_16 zls_4_8
theorem zls_4_9 : ∀ w ∈ zl_4_9, w ∈ tables_1_4 := fun w hw => by
  rw [ztq_4]
  exact List.mem_append_right _ (List.mem_append_right _ (List.mem_append_right _ (List.mem_append_right _ (List.mem_append_right _ (List.mem_append_right _ (List.mem_append_right _ (List.mem_append_right _ (List.mem_append_right _ (List.mem_append_left _ hw)))))))))
def zlt_4_9 := zu_16 zls_4_9
theorem zls_4_10 : ∀ w ∈ zl_4_10, w ∈ tables_1_4 := fun w hw => by
  rw [ztq_4]
  exact List.mem_append_right _ (List.mem_append_right _ (List.mem_append_right _ (List.mem_append_right _ (List.mem_append_right _ (List.mem_append_right _ (List.mem_append_right _ (List.mem_append_right _ (List.mem_append_right _ (List.mem_append_right _ (List.mem_append_left _ hw))))))))))
def zlt_4_10 := zu_16 zls_4_10
theorem zls_4_11 : ∀ w ∈ zl_4_11, w ∈ tables_1_4 := fun w hw => by
  rw [ztq_4]
  exact List.mem_append_right _ (List.mem_append_right _ (List.mem_append_right _ (List.mem_append_right _ (List.mem_append_right _ (List.mem_append_right _ (List.mem_append_right _ (List.mem_append_right _ (List.mem_append_right _ (List.mem_append_right _ (List.mem_append_right _ (List.mem_append_left _ hw)))))))))))
def zlt_4_11 := zu_16 zls_4_11
theorem zls_4_12 : ∀ w ∈ zl_4_12, w ∈ tables_1_4 := fun w hw => by
  rw [ztq_4]
  exact List.mem_append_right _ (List.mem_append_right _ (List.mem_append_right _ (List.mem_append_right _ (List.mem_append_right _ (List.mem_append_right _ (List.mem_append_right _ (List.mem_append_right _ (List.mem_append_right _ (List.mem_append_right _ (List.mem_append_right _ (List.mem_append_right _ (List.mem_append_left _ hw))))))))))))
def zlt_4_12 := zu_16 zls_4_12
theorem zls_4_13 : ∀ w ∈ zl_4_13, w ∈ tables_1_4 := fun w hw => by
  rw [ztq_4]
  exact List.mem_append_right _ (List.mem_append_right _ (List.mem_append_right _ (List.mem_append_right _ (List.mem_append_right _ (List.mem_append_right _ (List.mem_append_right _ (List.mem_append_right _ (List.mem_append_right _ (List.mem_append_right _ (List.mem_append_right _ (List.mem_append_right _ (List.mem_append_right _ (List.mem_append_left _ hw)))))))))))))
def zlt_4_13 := zu_16 zls_4_13
theorem zls_4_14 : ∀ w ∈ zl_4_14, w ∈ tables_1_4 := fun w hw => by
  rw [ztq_4]
  exact List.mem_append_right _ (List.mem_append_right _ (List.mem_append_right _ (List.mem_append_right _ (List.mem_append_right _ (List.mem_append_right _ (List.mem_append_right _ (List.mem_append_right _ (List.mem_append_right _ (List.mem_append_right _ (List.mem_append_right _ (List.mem_append_right _ (List.mem_append_right _ (List.mem_append_right _ (hw))))))))))))))
def zlt_4_14 := zu_16 zls_4_14
theorem z_mt5 {w : Cond} (h : w ∈ tables_1_5) (hg : goodWord w = true) : w ∈ za_Ts := List.mem_filter.mpr ⟨List.mem_append_right _ (show w ∈ tables_1 from List.mem_append_right _ (List.mem_append_right _ (List.mem_append_right _ (List.mem_append_right _ (List.mem_append_left _ (h)))))), hg⟩
abbrev zl_5_0 : List Cond := [Jvm.Cond.static ({ cls := "LyndonBenchLaw", name := "factorLength", desc := "(LLyndonBench;I[J)I" } : Jvm.MethodName), Jvm.Cond.codeWith ({ cls := "LyndonBenchLaw", name := "factorLength", desc := "(LLyndonBench;I[J)I" } : Jvm.MethodName) method_19_code (4 : Nat) (Option.some Jvm.ClassFile.FieldType.int) [((0 : Nat), (9 : Nat), (12 : Nat), (46 : Nat))], Jvm.Cond.methodLink "LyndonBenchLaw" (69 : Nat) ({ cls := "LyndonBench", name := "factorLength", desc := "(I)I" } : Jvm.MethodName), Jvm.Cond.instanceMethod ({ cls := "LyndonBench", name := "factorLength", desc := "(I)I" } : Jvm.MethodName), Jvm.Cond.selects "LyndonBench" ({ cls := "LyndonBench", name := "factorLength", desc := "(I)I" } : Jvm.MethodName) ({ cls := "LyndonBench", name := "factorLength", desc := "(I)I" } : Jvm.MethodName), Jvm.Cond.code ({ cls := "LyndonBench", name := "factorLength", desc := "(I)I" } : Jvm.MethodName) prog_1_method_30_code (3 : Nat) (Option.some Jvm.ClassFile.FieldType.int), Jvm.Cond.methodLink "LyndonBenchLaw" (210 : Nat) ({ cls := "LyndonBenchLaw", name := "factorPower", desc := "(LLyndonBench;I[J)I" } : Jvm.MethodName), Jvm.Cond.static ({ cls := "LyndonBenchLaw", name := "factorPower", desc := "(LLyndonBench;I[J)I" } : Jvm.MethodName), Jvm.Cond.codeWith ({ cls := "LyndonBenchLaw", name := "factorPower", desc := "(LLyndonBench;I[J)I" } : Jvm.MethodName) method_20_code (4 : Nat) (Option.some Jvm.ClassFile.FieldType.int) [((0 : Nat), (9 : Nat), (12 : Nat), (46 : Nat))], Jvm.Cond.methodLink "LyndonBenchLaw" (72 : Nat) ({ cls := "LyndonBench", name := "factorPower", desc := "(I)I" } : Jvm.MethodName), Jvm.Cond.instanceMethod ({ cls := "LyndonBench", name := "factorPower", desc := "(I)I" } : Jvm.MethodName), Jvm.Cond.selects "LyndonBench" ({ cls := "LyndonBench", name := "factorPower", desc := "(I)I" } : Jvm.MethodName) ({ cls := "LyndonBench", name := "factorPower", desc := "(I)I" } : Jvm.MethodName), Jvm.Cond.code ({ cls := "LyndonBench", name := "factorPower", desc := "(I)I" } : Jvm.MethodName) prog_1_method_31_code (3 : Nat) (Option.some Jvm.ClassFile.FieldType.int), Jvm.Cond.methodLink "LyndonBenchLaw" (221 : Nat) ({ cls := "LyndonBenchLaw", name := "factorsIfAppended", desc := "(LLyndonBench;I[J)I" } : Jvm.MethodName), Jvm.Cond.static ({ cls := "LyndonBenchLaw", name := "factorsIfAppended", desc := "(LLyndonBench;I[J)I" } : Jvm.MethodName), Jvm.Cond.codeWith ({ cls := "LyndonBenchLaw", name := "factorsIfAppended", desc := "(LLyndonBench;I[J)I" } : Jvm.MethodName) method_21_code (4 : Nat) (Option.some Jvm.ClassFile.FieldType.int) [((0 : Nat), (9 : Nat), (12 : Nat), (13 : Nat))]]
abbrev zl_5_1 : List Cond := [Jvm.Cond.methodLink "LyndonBenchLaw" (75 : Nat) ({ cls := "LyndonBench", name := "factorsIfAppended", desc := "(I)I" } : Jvm.MethodName), Jvm.Cond.instanceMethod ({ cls := "LyndonBench", name := "factorsIfAppended", desc := "(I)I" } : Jvm.MethodName), Jvm.Cond.selects "LyndonBench" ({ cls := "LyndonBench", name := "factorsIfAppended", desc := "(I)I" } : Jvm.MethodName) ({ cls := "LyndonBench", name := "factorsIfAppended", desc := "(I)I" } : Jvm.MethodName), Jvm.Cond.code ({ cls := "LyndonBench", name := "factorsIfAppended", desc := "(I)I" } : Jvm.MethodName) prog_1_method_34_code (2 : Nat) (Option.some Jvm.ClassFile.FieldType.int), Jvm.Cond.methodLink "LyndonBench" (240 : Nat) ({ cls := "LyndonBench$Word", name := "copyFrom", desc := "(LLyndonBench$Word;)V" } : Jvm.MethodName), Jvm.Cond.methodLink "LyndonBenchLaw" (224 : Nat) ({ cls := "LyndonBenchLaw", name := "factorsIfRotated", desc := "(LLyndonBench;I[J)I" } : Jvm.MethodName), Jvm.Cond.static ({ cls := "LyndonBenchLaw", name := "factorsIfRotated", desc := "(LLyndonBench;I[J)I" } : Jvm.MethodName), Jvm.Cond.codeWith ({ cls := "LyndonBenchLaw", name := "factorsIfRotated", desc := "(LLyndonBench;I[J)I" } : Jvm.MethodName) method_22_code (4 : Nat) (Option.some Jvm.ClassFile.FieldType.int) [((0 : Nat), (9 : Nat), (12 : Nat), (13 : Nat))], Jvm.Cond.methodLink "LyndonBenchLaw" (78 : Nat) ({ cls := "LyndonBench", name := "factorsIfRotated", desc := "(I)I" } : Jvm.MethodName), Jvm.Cond.instanceMethod ({ cls := "LyndonBench", name := "factorsIfRotated", desc := "(I)I" } : Jvm.MethodName), Jvm.Cond.selects "LyndonBench" ({ cls := "LyndonBench", name := "factorsIfRotated", desc := "(I)I" } : Jvm.MethodName) ({ cls := "LyndonBench", name := "factorsIfRotated", desc := "(I)I" } : Jvm.MethodName), Jvm.Cond.code ({ cls := "LyndonBench", name := "factorsIfRotated", desc := "(I)I" } : Jvm.MethodName) prog_1_method_35_code (2 : Nat) (Option.some Jvm.ClassFile.FieldType.int), Jvm.Cond.methodLink "LyndonBenchLaw" (227 : Nat) ({ cls := "LyndonBenchLaw", name := "rankOf", desc := "(LLyndonBench;I[J)I" } : Jvm.MethodName), Jvm.Cond.static ({ cls := "LyndonBenchLaw", name := "rankOf", desc := "(LLyndonBench;I[J)I" } : Jvm.MethodName), Jvm.Cond.codeWith ({ cls := "LyndonBenchLaw", name := "rankOf", desc := "(LLyndonBench;I[J)I" } : Jvm.MethodName) method_23_code (4 : Nat) (Option.some Jvm.ClassFile.FieldType.int) [((0 : Nat), (9 : Nat), (12 : Nat), (46 : Nat))], Jvm.Cond.methodLink "LyndonBenchLaw" (81 : Nat) ({ cls := "LyndonBench", name := "rankOf", desc := "(I)I" } : Jvm.MethodName)]
abbrev zl_5_2 : List Cond := [Jvm.Cond.instanceMethod ({ cls := "LyndonBench", name := "rankOf", desc := "(I)I" } : Jvm.MethodName), Jvm.Cond.selects "LyndonBench" ({ cls := "LyndonBench", name := "rankOf", desc := "(I)I" } : Jvm.MethodName) ({ cls := "LyndonBench", name := "rankOf", desc := "(I)I" } : Jvm.MethodName), Jvm.Cond.code ({ cls := "LyndonBench", name := "rankOf", desc := "(I)I" } : Jvm.MethodName) prog_1_method_36_code (4 : Nat) (Option.some Jvm.ClassFile.FieldType.int), Jvm.Cond.methodLink "LyndonBench" (243 : Nat) ({ cls := "LyndonBench", name := "fitsRow", desc := "(II)Z" } : Jvm.MethodName), Jvm.Cond.static ({ cls := "LyndonBench", name := "fitsRow", desc := "(II)Z" } : Jvm.MethodName), Jvm.Cond.code ({ cls := "LyndonBench", name := "fitsRow", desc := "(II)Z" } : Jvm.MethodName) prog_1_method_66_code (5 : Nat) (Option.some Jvm.ClassFile.FieldType.boolean), Jvm.Cond.constantLong "LyndonBench" (308 : Nat) (4096 : Int64), Jvm.Cond.methodLink "LyndonBench" (247 : Nat) ({ cls := "LyndonBench", name := "countSmaller", desc := "(II)I" } : Jvm.MethodName), Jvm.Cond.privateMethod ({ cls := "LyndonBench", name := "countSmaller", desc := "(II)I" } : Jvm.MethodName), Jvm.Cond.instanceMethod ({ cls := "LyndonBench", name := "countSmaller", desc := "(II)I" } : Jvm.MethodName), Jvm.Cond.code ({ cls := "LyndonBench", name := "countSmaller", desc := "(II)I" } : Jvm.MethodName) prog_1_method_70_code (6 : Nat) (Option.some Jvm.ClassFile.FieldType.int), Jvm.Cond.methodLink "LyndonBench" (314 : Nat) ({ cls := "LyndonBench", name := "startListing", desc := "()V" } : Jvm.MethodName), Jvm.Cond.privateMethod ({ cls := "LyndonBench", name := "startListing", desc := "()V" } : Jvm.MethodName), Jvm.Cond.instanceMethod ({ cls := "LyndonBench", name := "startListing", desc := "()V" } : Jvm.MethodName), Jvm.Cond.code ({ cls := "LyndonBench", name := "startListing", desc := "()V" } : Jvm.MethodName) prog_1_method_69_code (1 : Nat) (Option.none : Option Jvm.ClassFile.FieldType), Jvm.Cond.methodLink "LyndonBenchLaw" (275 : Nat) ({ cls := "LyndonBenchLaw", name := "lyndonWords", desc := "(LLyndonBench;I[J)I" } : Jvm.MethodName)]
abbrev zl_5_3 : List Cond := [Jvm.Cond.static ({ cls := "LyndonBenchLaw", name := "lyndonWords", desc := "(LLyndonBench;I[J)I" } : Jvm.MethodName), Jvm.Cond.codeWith ({ cls := "LyndonBenchLaw", name := "lyndonWords", desc := "(LLyndonBench;I[J)I" } : Jvm.MethodName) method_24_code (4 : Nat) (Option.some Jvm.ClassFile.FieldType.int) [((0 : Nat), (8 : Nat), (11 : Nat), (13 : Nat))], Jvm.Cond.methodLink "LyndonBenchLaw" (84 : Nat) ({ cls := "LyndonBench", name := "lyndonWords", desc := "(I)J" } : Jvm.MethodName), Jvm.Cond.instanceMethod ({ cls := "LyndonBench", name := "lyndonWords", desc := "(I)J" } : Jvm.MethodName), Jvm.Cond.selects "LyndonBench" ({ cls := "LyndonBench", name := "lyndonWords", desc := "(I)J" } : Jvm.MethodName) ({ cls := "LyndonBench", name := "lyndonWords", desc := "(I)J" } : Jvm.MethodName), Jvm.Cond.code ({ cls := "LyndonBench", name := "lyndonWords", desc := "(I)J" } : Jvm.MethodName) prog_1_method_48_code (2 : Nat) (Option.some Jvm.ClassFile.FieldType.long), Jvm.Cond.methodLink "LyndonBench" (265 : Nat) ({ cls := "LyndonBench", name := "checkCountedLength", desc := "(I)V" } : Jvm.MethodName), Jvm.Cond.privateMethod ({ cls := "LyndonBench", name := "checkCountedLength", desc := "(I)V" } : Jvm.MethodName), Jvm.Cond.instanceMethod ({ cls := "LyndonBench", name := "checkCountedLength", desc := "(I)V" } : Jvm.MethodName), Jvm.Cond.code ({ cls := "LyndonBench", name := "checkCountedLength", desc := "(I)V" } : Jvm.MethodName) prog_1_method_64_code (2 : Nat) (Option.none : Option Jvm.ClassFile.FieldType), Jvm.Cond.stringRef "LyndonBench" (301 : Nat) "words of 1 to 18 letters are counted", Jvm.Cond.methodLink "LyndonBenchLaw" (278 : Nat) ({ cls := "LyndonBenchLaw", name := "necklaces", desc := "(LLyndonBench;I[J)I" } : Jvm.MethodName), Jvm.Cond.static ({ cls := "LyndonBenchLaw", name := "necklaces", desc := "(LLyndonBench;I[J)I" } : Jvm.MethodName), Jvm.Cond.codeWith ({ cls := "LyndonBenchLaw", name := "necklaces", desc := "(LLyndonBench;I[J)I" } : Jvm.MethodName) method_25_code (4 : Nat) (Option.some Jvm.ClassFile.FieldType.int) [((0 : Nat), (8 : Nat), (11 : Nat), (13 : Nat))], Jvm.Cond.methodLink "LyndonBenchLaw" (88 : Nat) ({ cls := "LyndonBench", name := "necklaces", desc := "(I)J" } : Jvm.MethodName), Jvm.Cond.instanceMethod ({ cls := "LyndonBench", name := "necklaces", desc := "(I)J" } : Jvm.MethodName)]
abbrev zl_5_4 : List Cond := [Jvm.Cond.selects "LyndonBench" ({ cls := "LyndonBench", name := "necklaces", desc := "(I)J" } : Jvm.MethodName) ({ cls := "LyndonBench", name := "necklaces", desc := "(I)J" } : Jvm.MethodName), Jvm.Cond.code ({ cls := "LyndonBench", name := "necklaces", desc := "(I)J" } : Jvm.MethodName) prog_1_method_49_code (2 : Nat) (Option.some Jvm.ClassFile.FieldType.long), Jvm.Cond.methodLink "LyndonBenchLaw" (281 : Nat) ({ cls := "LyndonBenchLaw", name := "bruijnLetter", desc := "(LLyndonBench;II[J)I" } : Jvm.MethodName), Jvm.Cond.static ({ cls := "LyndonBenchLaw", name := "bruijnLetter", desc := "(LLyndonBench;II[J)I" } : Jvm.MethodName), Jvm.Cond.codeWith ({ cls := "LyndonBenchLaw", name := "bruijnLetter", desc := "(LLyndonBench;II[J)I" } : Jvm.MethodName) method_26_code (5 : Nat) (Option.some Jvm.ClassFile.FieldType.int) [((0 : Nat), (10 : Nat), (13 : Nat), (13 : Nat)), ((0 : Nat), (10 : Nat), (17 : Nat), (46 : Nat))], Jvm.Cond.methodLink "LyndonBenchLaw" (91 : Nat) ({ cls := "LyndonBench", name := "bruijnLetter", desc := "(II)I" } : Jvm.MethodName), Jvm.Cond.instanceMethod ({ cls := "LyndonBench", name := "bruijnLetter", desc := "(II)I" } : Jvm.MethodName), Jvm.Cond.selects "LyndonBench" ({ cls := "LyndonBench", name := "bruijnLetter", desc := "(II)I" } : Jvm.MethodName) ({ cls := "LyndonBench", name := "bruijnLetter", desc := "(II)I" } : Jvm.MethodName), Jvm.Cond.code ({ cls := "LyndonBench", name := "bruijnLetter", desc := "(II)I" } : Jvm.MethodName) prog_1_method_50_code (4 : Nat) (Option.some Jvm.ClassFile.FieldType.int), Jvm.Cond.stringRef "LyndonBench" (279 : Nat) "there is no row of this order", Jvm.Cond.methodLink "LyndonBench" (281 : Nat) ({ cls := "LyndonBench", name := "findRowLetter", desc := "(II)I" } : Jvm.MethodName), Jvm.Cond.privateMethod ({ cls := "LyndonBench", name := "findRowLetter", desc := "(II)I" } : Jvm.MethodName), Jvm.Cond.instanceMethod ({ cls := "LyndonBench", name := "findRowLetter", desc := "(II)I" } : Jvm.MethodName), Jvm.Cond.code ({ cls := "LyndonBench", name := "findRowLetter", desc := "(II)I" } : Jvm.MethodName) prog_1_method_71_code (5 : Nat) (Option.some Jvm.ClassFile.FieldType.int), Jvm.Cond.stringRef "LyndonBench" (284 : Nat) "the row has no such letter", Jvm.Cond.methodLink "LyndonBenchLaw" (288 : Nat) ({ cls := "LyndonBenchLaw", name := "keptLength", desc := "(LLyndonBench;I[J)I" } : Jvm.MethodName)]
abbrev zl_5_5 : List Cond := [Jvm.Cond.static ({ cls := "LyndonBenchLaw", name := "keptLength", desc := "(LLyndonBench;I[J)I" } : Jvm.MethodName), Jvm.Cond.codeWith ({ cls := "LyndonBenchLaw", name := "keptLength", desc := "(LLyndonBench;I[J)I" } : Jvm.MethodName) method_27_code (4 : Nat) (Option.some Jvm.ClassFile.FieldType.int) [((0 : Nat), (9 : Nat), (12 : Nat), (46 : Nat))], Jvm.Cond.methodLink "LyndonBenchLaw" (94 : Nat) ({ cls := "LyndonBench", name := "keptLength", desc := "(I)I" } : Jvm.MethodName), Jvm.Cond.instanceMethod ({ cls := "LyndonBench", name := "keptLength", desc := "(I)I" } : Jvm.MethodName), Jvm.Cond.selects "LyndonBench" ({ cls := "LyndonBench", name := "keptLength", desc := "(I)I" } : Jvm.MethodName) ({ cls := "LyndonBench", name := "keptLength", desc := "(I)I" } : Jvm.MethodName), Jvm.Cond.code ({ cls := "LyndonBench", name := "keptLength", desc := "(I)I" } : Jvm.MethodName) prog_1_method_52_code (3 : Nat) (Option.some Jvm.ClassFile.FieldType.int), Jvm.Cond.methodLink "LyndonBenchLaw" (291 : Nat) ({ cls := "LyndonBenchLaw", name := "keptLetter", desc := "(LLyndonBench;II[J)I" } : Jvm.MethodName), Jvm.Cond.static ({ cls := "LyndonBenchLaw", name := "keptLetter", desc := "(LLyndonBench;II[J)I" } : Jvm.MethodName), Jvm.Cond.codeWith ({ cls := "LyndonBenchLaw", name := "keptLetter", desc := "(LLyndonBench;II[J)I" } : Jvm.MethodName) method_28_code (5 : Nat) (Option.some Jvm.ClassFile.FieldType.int) [((0 : Nat), (10 : Nat), (13 : Nat), (46 : Nat))], Jvm.Cond.methodLink "LyndonBenchLaw" (97 : Nat) ({ cls := "LyndonBench", name := "keptLetter", desc := "(II)I" } : Jvm.MethodName), Jvm.Cond.instanceMethod ({ cls := "LyndonBench", name := "keptLetter", desc := "(II)I" } : Jvm.MethodName), Jvm.Cond.selects "LyndonBench" ({ cls := "LyndonBench", name := "keptLetter", desc := "(II)I" } : Jvm.MethodName) ({ cls := "LyndonBench", name := "keptLetter", desc := "(II)I" } : Jvm.MethodName), Jvm.Cond.code ({ cls := "LyndonBench", name := "keptLetter", desc := "(II)I" } : Jvm.MethodName) prog_1_method_53_code (4 : Nat) (Option.some Jvm.ClassFile.FieldType.int), Jvm.Cond.classLink "LyndonBenchLaw" (101 : Nat) "LyndonBenchModel", Jvm.Cond.instantiable "LyndonBenchModel" (24 : Nat), Jvm.Cond.methodLink "LyndonBenchLaw" (103 : Nat) ({ cls := "LyndonBenchModel", name := "<init>", desc := "()V" } : Jvm.MethodName)]
abbrev zl_5_6 : List Cond := [Jvm.Cond.instanceMethod ({ cls := "LyndonBenchModel", name := "<init>", desc := "()V" } : Jvm.MethodName), Jvm.Cond.code ({ cls := "LyndonBenchModel", name := "<init>", desc := "()V" } : Jvm.MethodName) prog_9_method_1_code (1 : Nat) (Option.none : Option Jvm.ClassFile.FieldType), Jvm.Cond.methodLink "LyndonBenchModel" (1 : Nat) ({ cls := "java/lang/Object", name := "<init>", desc := "()V" } : Jvm.MethodName), Jvm.Cond.stringRef "LyndonBenchModel" (45 : Nat) "letters 3; text abacabaabacc; keep 0; keep 1; append ab; rotate 2;", Jvm.Cond.methodLink "LyndonBenchModel" (47 : Nat) ({ cls := "LyndonBenchModel", name := "tell", desc := "(Ljava/lang/String;)V" } : Jvm.MethodName), Jvm.Cond.privateMethod ({ cls := "LyndonBenchModel", name := "tell", desc := "(Ljava/lang/String;)V" } : Jvm.MethodName), Jvm.Cond.instanceMethod ({ cls := "LyndonBenchModel", name := "tell", desc := "(Ljava/lang/String;)V" } : Jvm.MethodName), Jvm.Cond.code ({ cls := "LyndonBenchModel", name := "tell", desc := "(Ljava/lang/String;)V" } : Jvm.MethodName) prog_9_method_50_code (3 : Nat) (Option.none : Option Jvm.ClassFile.FieldType), Jvm.Cond.methodLink "LyndonBenchModel" (140 : Nat) ({ cls := "java/lang/String", name := "length", desc := "()I" } : Jvm.MethodName), Jvm.Cond.methodLink "LyndonBenchModel" (148 : Nat) ({ cls := "java/lang/String", name := "charAt", desc := "(I)C" } : Jvm.MethodName), Jvm.Cond.methodLink "LyndonBenchModel" (51 : Nat) ({ cls := "LyndonBenchModel", name := "parses", desc := "()Z" } : Jvm.MethodName), Jvm.Cond.privateMethod ({ cls := "LyndonBenchModel", name := "parses", desc := "()Z" } : Jvm.MethodName), Jvm.Cond.instanceMethod ({ cls := "LyndonBenchModel", name := "parses", desc := "()Z" } : Jvm.MethodName), Jvm.Cond.code ({ cls := "LyndonBenchModel", name := "parses", desc := "()Z" } : Jvm.MethodName) prog_9_method_76_code (2 : Nat) (Option.some Jvm.ClassFile.FieldType.boolean), Jvm.Cond.methodLink "LyndonBenchModel" (177 : Nat) ({ cls := "LyndonBenchModel", name := "next", desc := "()V" } : Jvm.MethodName), Jvm.Cond.privateMethod ({ cls := "LyndonBenchModel", name := "next", desc := "()V" } : Jvm.MethodName)]
abbrev zl_5_7 : List Cond := [Jvm.Cond.instanceMethod ({ cls := "LyndonBenchModel", name := "next", desc := "()V" } : Jvm.MethodName), Jvm.Cond.code ({ cls := "LyndonBenchModel", name := "next", desc := "()V" } : Jvm.MethodName) prog_9_method_52_code (2 : Nat) (Option.none : Option Jvm.ClassFile.FieldType), Jvm.Cond.methodLink "LyndonBenchModel" (161 : Nat) ({ cls := "LyndonBenchModel", name := "sortOf", desc := "(I)I" } : Jvm.MethodName), Jvm.Cond.static ({ cls := "LyndonBenchModel", name := "sortOf", desc := "(I)I" } : Jvm.MethodName), Jvm.Cond.code ({ cls := "LyndonBenchModel", name := "sortOf", desc := "(I)I" } : Jvm.MethodName) prog_9_method_51_code (1 : Nat) (Option.some Jvm.ClassFile.FieldType.int), Jvm.Cond.methodLink "LyndonBenchModel" (307 : Nat) ({ cls := "LyndonBenchModel", name := "readsAll", desc := "()Z" } : Jvm.MethodName), Jvm.Cond.privateMethod ({ cls := "LyndonBenchModel", name := "readsAll", desc := "()Z" } : Jvm.MethodName), Jvm.Cond.instanceMethod ({ cls := "LyndonBenchModel", name := "readsAll", desc := "()Z" } : Jvm.MethodName), Jvm.Cond.code ({ cls := "LyndonBenchModel", name := "readsAll", desc := "()Z" } : Jvm.MethodName) prog_9_method_75_code (1 : Nat) (Option.some Jvm.ClassFile.FieldType.boolean), Jvm.Cond.stringRef "LyndonBenchModel" (305 : Nat) "letters", Jvm.Cond.methodLink "LyndonBenchModel" (233 : Nat) ({ cls := "LyndonBenchModel", name := "says", desc := "(Ljava/lang/String;)Z" } : Jvm.MethodName), Jvm.Cond.privateMethod ({ cls := "LyndonBenchModel", name := "says", desc := "(Ljava/lang/String;)Z" } : Jvm.MethodName), Jvm.Cond.instanceMethod ({ cls := "LyndonBenchModel", name := "says", desc := "(Ljava/lang/String;)Z" } : Jvm.MethodName), Jvm.Cond.code ({ cls := "LyndonBenchModel", name := "says", desc := "(Ljava/lang/String;)Z" } : Jvm.MethodName) prog_9_method_53_code (3 : Nat) (Option.some Jvm.ClassFile.FieldType.boolean), Jvm.Cond.methodLink "LyndonBenchModel" (170 : Nat) ({ cls := "LyndonBenchModel", name := "fail", desc := "(I)Z" } : Jvm.MethodName), Jvm.Cond.privateMethod ({ cls := "LyndonBenchModel", name := "fail", desc := "(I)Z" } : Jvm.MethodName)]
abbrev zl_5_8 : List Cond := [Jvm.Cond.instanceMethod ({ cls := "LyndonBenchModel", name := "fail", desc := "(I)Z" } : Jvm.MethodName), Jvm.Cond.code ({ cls := "LyndonBenchModel", name := "fail", desc := "(I)Z" } : Jvm.MethodName) prog_9_method_54_code (2 : Nat) (Option.some Jvm.ClassFile.FieldType.boolean), Jvm.Cond.methodLink "LyndonBenchModel" (190 : Nat) ({ cls := "LyndonBenchModel", name := "number", desc := "(III)Z" } : Jvm.MethodName), Jvm.Cond.privateMethod ({ cls := "LyndonBenchModel", name := "number", desc := "(III)Z" } : Jvm.MethodName), Jvm.Cond.instanceMethod ({ cls := "LyndonBenchModel", name := "number", desc := "(III)Z" } : Jvm.MethodName), Jvm.Cond.code ({ cls := "LyndonBenchModel", name := "number", desc := "(III)Z" } : Jvm.MethodName) prog_9_method_56_code (4 : Nat) (Option.some Jvm.ClassFile.FieldType.boolean), Jvm.Cond.methodLink "LyndonBenchModel" (174 : Nat) ({ cls := "LyndonBenchModel", name := "is", desc := "(I)Z" } : Jvm.MethodName), Jvm.Cond.privateMethod ({ cls := "LyndonBenchModel", name := "is", desc := "(I)Z" } : Jvm.MethodName), Jvm.Cond.instanceMethod ({ cls := "LyndonBenchModel", name := "is", desc := "(I)Z" } : Jvm.MethodName), Jvm.Cond.code ({ cls := "LyndonBenchModel", name := "is", desc := "(I)Z" } : Jvm.MethodName) prog_9_method_55_code (2 : Nat) (Option.some Jvm.ClassFile.FieldType.boolean), Jvm.Cond.methodLink "LyndonBenchModel" (58 : Nat) ({ cls := "LyndonBenchModel", name := "in", desc := "(III)Z" } : Jvm.MethodName), Jvm.Cond.static ({ cls := "LyndonBenchModel", name := "in", desc := "(III)Z" } : Jvm.MethodName), Jvm.Cond.code ({ cls := "LyndonBenchModel", name := "in", desc := "(III)Z" } : Jvm.MethodName) prog_9_method_3_code (3 : Nat) (Option.some Jvm.ClassFile.FieldType.boolean), Jvm.Cond.methodLink "LyndonBenchModel" (229 : Nat) ({ cls := "LyndonBenchModel", name := "readsCommand", desc := "(I)Z" } : Jvm.MethodName), Jvm.Cond.privateMethod ({ cls := "LyndonBenchModel", name := "readsCommand", desc := "(I)Z" } : Jvm.MethodName), Jvm.Cond.instanceMethod ({ cls := "LyndonBenchModel", name := "readsCommand", desc := "(I)Z" } : Jvm.MethodName)]
abbrev zl_5_9 : List Cond := [Jvm.Cond.code ({ cls := "LyndonBenchModel", name := "readsCommand", desc := "(I)Z" } : Jvm.MethodName) prog_9_method_73_code (3 : Nat) (Option.some Jvm.ClassFile.FieldType.boolean), Jvm.Cond.methodLink "LyndonBenchModel" (260 : Nat) ({ cls := "LyndonBenchModel", name := "wordAhead", desc := "()I" } : Jvm.MethodName), Jvm.Cond.privateMethod ({ cls := "LyndonBenchModel", name := "wordAhead", desc := "()I" } : Jvm.MethodName), Jvm.Cond.instanceMethod ({ cls := "LyndonBenchModel", name := "wordAhead", desc := "()I" } : Jvm.MethodName), Jvm.Cond.code ({ cls := "LyndonBenchModel", name := "wordAhead", desc := "()I" } : Jvm.MethodName) prog_9_method_71_code (1 : Nat) (Option.some Jvm.ClassFile.FieldType.int), Jvm.Cond.stringRef "LyndonBenchModel" (232 : Nat) "text", Jvm.Cond.stringRef "LyndonBenchModel" (237 : Nat) "append", Jvm.Cond.stringRef "LyndonBenchModel" (239 : Nat) "drop", Jvm.Cond.stringRef "LyndonBenchModel" (241 : Nat) "part", Jvm.Cond.stringRef "LyndonBenchModel" (243 : Nat) "rotate", Jvm.Cond.stringRef "LyndonBenchModel" (245 : Nat) "reverse", Jvm.Cond.methodLink "LyndonBenchModel" (247 : Nat) ({ cls := "LyndonBenchModel", name := "laterWord", desc := "()I" } : Jvm.MethodName), Jvm.Cond.privateMethod ({ cls := "LyndonBenchModel", name := "laterWord", desc := "()I" } : Jvm.MethodName), Jvm.Cond.instanceMethod ({ cls := "LyndonBenchModel", name := "laterWord", desc := "()I" } : Jvm.MethodName), Jvm.Cond.code ({ cls := "LyndonBenchModel", name := "laterWord", desc := "()I" } : Jvm.MethodName) prog_9_method_72_code (1 : Nat) (Option.some Jvm.ClassFile.FieldType.int), Jvm.Cond.stringRef "LyndonBenchModel" (250 : Nat) "least"]
abbrev zl_5_10 : List Cond := [Jvm.Cond.stringRef "LyndonBenchModel" (251 : Nat) "next", Jvm.Cond.stringRef "LyndonBenchModel" (252 : Nat) "keep", Jvm.Cond.stringRef "LyndonBenchModel" (254 : Nat) "remove", Jvm.Cond.stringRef "LyndonBenchModel" (256 : Nat) "join", Jvm.Cond.stringRef "LyndonBenchModel" (258 : Nat) "repeat", Jvm.Cond.methodLink "LyndonBenchModel" (263 : Nat) ({ cls := "LyndonBenchModel", name := "readsRepeat", desc := "(I)Z" } : Jvm.MethodName), Jvm.Cond.privateMethod ({ cls := "LyndonBenchModel", name := "readsRepeat", desc := "(I)Z" } : Jvm.MethodName), Jvm.Cond.instanceMethod ({ cls := "LyndonBenchModel", name := "readsRepeat", desc := "(I)Z" } : Jvm.MethodName), Jvm.Cond.code ({ cls := "LyndonBenchModel", name := "readsRepeat", desc := "(I)Z" } : Jvm.MethodName) prog_9_method_70_code (5 : Nat) (Option.some Jvm.ClassFile.FieldType.boolean), Jvm.Cond.methodLink "LyndonBenchModel" (269 : Nat) ({ cls := "LyndonBenchModel", name := "readsWord", desc := "(I)Z" } : Jvm.MethodName), Jvm.Cond.privateMethod ({ cls := "LyndonBenchModel", name := "readsWord", desc := "(I)Z" } : Jvm.MethodName), Jvm.Cond.instanceMethod ({ cls := "LyndonBenchModel", name := "readsWord", desc := "(I)Z" } : Jvm.MethodName), Jvm.Cond.code ({ cls := "LyndonBenchModel", name := "readsWord", desc := "(I)Z" } : Jvm.MethodName) prog_9_method_74_code (2 : Nat) (Option.some Jvm.ClassFile.FieldType.boolean), Jvm.Cond.methodLink "LyndonBenchModel" (272 : Nat) ({ cls := "LyndonBenchModel", name := "readsText", desc := "()Z" } : Jvm.MethodName), Jvm.Cond.privateMethod ({ cls := "LyndonBenchModel", name := "readsText", desc := "()Z" } : Jvm.MethodName), Jvm.Cond.instanceMethod ({ cls := "LyndonBenchModel", name := "readsText", desc := "()Z" } : Jvm.MethodName)]
abbrev zl_5_11 : List Cond := [Jvm.Cond.code ({ cls := "LyndonBenchModel", name := "readsText", desc := "()Z" } : Jvm.MethodName) prog_9_method_59_code (1 : Nat) (Option.some Jvm.ClassFile.FieldType.boolean), Jvm.Cond.methodLink "LyndonBenchModel" (183 : Nat) ({ cls := "LyndonBenchModel", name := "readsWordInto", desc := "(I)Z" } : Jvm.MethodName), Jvm.Cond.privateMethod ({ cls := "LyndonBenchModel", name := "readsWordInto", desc := "(I)Z" } : Jvm.MethodName), Jvm.Cond.instanceMethod ({ cls := "LyndonBenchModel", name := "readsWordInto", desc := "(I)Z" } : Jvm.MethodName), Jvm.Cond.code ({ cls := "LyndonBenchModel", name := "readsWordInto", desc := "(I)Z" } : Jvm.MethodName) prog_9_method_58_code (4 : Nat) (Option.some Jvm.ClassFile.FieldType.boolean), Jvm.Cond.methodLink "LyndonBenchModel" (180 : Nat) ({ cls := "LyndonBenchModel", name := "isLetter", desc := "(I)Z" } : Jvm.MethodName), Jvm.Cond.privateMethod ({ cls := "LyndonBenchModel", name := "isLetter", desc := "(I)Z" } : Jvm.MethodName), Jvm.Cond.instanceMethod ({ cls := "LyndonBenchModel", name := "isLetter", desc := "(I)Z" } : Jvm.MethodName), Jvm.Cond.code ({ cls := "LyndonBenchModel", name := "isLetter", desc := "(I)Z" } : Jvm.MethodName) prog_9_method_6_code (2 : Nat) (Option.some Jvm.ClassFile.FieldType.boolean), Jvm.Cond.methodLink "LyndonBenchModel" (186 : Nat) ({ cls := "LyndonBenchModel", name := "stops", desc := "(Z)Z" } : Jvm.MethodName), Jvm.Cond.privateMethod ({ cls := "LyndonBenchModel", name := "stops", desc := "(Z)Z" } : Jvm.MethodName), Jvm.Cond.instanceMethod ({ cls := "LyndonBenchModel", name := "stops", desc := "(Z)Z" } : Jvm.MethodName), Jvm.Cond.code ({ cls := "LyndonBenchModel", name := "stops", desc := "(Z)Z" } : Jvm.MethodName) prog_9_method_57_code (2 : Nat) (Option.some Jvm.ClassFile.FieldType.boolean), Jvm.Cond.methodLink "LyndonBenchModel" (102 : Nat) ({ cls := "LyndonBenchModel", name := "takes", desc := "()I" } : Jvm.MethodName), Jvm.Cond.privateMethod ({ cls := "LyndonBenchModel", name := "takes", desc := "()I" } : Jvm.MethodName), Jvm.Cond.instanceMethod ({ cls := "LyndonBenchModel", name := "takes", desc := "()I" } : Jvm.MethodName)]
abbrev zl_5_12 : List Cond := [Jvm.Cond.code ({ cls := "LyndonBenchModel", name := "takes", desc := "()I" } : Jvm.MethodName) prog_9_method_30_code (2 : Nat) (Option.some Jvm.ClassFile.FieldType.int), Jvm.Cond.methodLink "LyndonBenchModel" (275 : Nat) ({ cls := "LyndonBenchModel", name := "readsAppend", desc := "()Z" } : Jvm.MethodName), Jvm.Cond.privateMethod ({ cls := "LyndonBenchModel", name := "readsAppend", desc := "()Z" } : Jvm.MethodName), Jvm.Cond.instanceMethod ({ cls := "LyndonBenchModel", name := "readsAppend", desc := "()Z" } : Jvm.MethodName), Jvm.Cond.code ({ cls := "LyndonBenchModel", name := "readsAppend", desc := "()Z" } : Jvm.MethodName) prog_9_method_60_code (1 : Nat) (Option.some Jvm.ClassFile.FieldType.boolean), Jvm.Cond.methodLink "LyndonBenchModel" (73 : Nat) ({ cls := "LyndonBenchModel", name := "loads", desc := "()V" } : Jvm.MethodName), Jvm.Cond.privateMethod ({ cls := "LyndonBenchModel", name := "loads", desc := "()V" } : Jvm.MethodName), Jvm.Cond.instanceMethod ({ cls := "LyndonBenchModel", name := "loads", desc := "()V" } : Jvm.MethodName), Jvm.Cond.code ({ cls := "LyndonBenchModel", name := "loads", desc := "()V" } : Jvm.MethodName) prog_9_method_10_code (2 : Nat) (Option.none : Option Jvm.ClassFile.FieldType), Jvm.Cond.methodLink "LyndonBenchModel" (278 : Nat) ({ cls := "LyndonBenchModel", name := "readsDrop", desc := "()Z" } : Jvm.MethodName), Jvm.Cond.privateMethod ({ cls := "LyndonBenchModel", name := "readsDrop", desc := "()Z" } : Jvm.MethodName), Jvm.Cond.instanceMethod ({ cls := "LyndonBenchModel", name := "readsDrop", desc := "()Z" } : Jvm.MethodName), Jvm.Cond.code ({ cls := "LyndonBenchModel", name := "readsDrop", desc := "()Z" } : Jvm.MethodName) prog_9_method_61_code (1 : Nat) (Option.some Jvm.ClassFile.FieldType.boolean), Jvm.Cond.methodLink "LyndonBenchModel" (193 : Nat) ({ cls := "LyndonBenchModel", name := "drops", desc := "(I)I" } : Jvm.MethodName), Jvm.Cond.privateMethod ({ cls := "LyndonBenchModel", name := "drops", desc := "(I)I" } : Jvm.MethodName), Jvm.Cond.instanceMethod ({ cls := "LyndonBenchModel", name := "drops", desc := "(I)I" } : Jvm.MethodName)]
abbrev zl_5_13 : List Cond := [Jvm.Cond.code ({ cls := "LyndonBenchModel", name := "drops", desc := "(I)I" } : Jvm.MethodName) prog_9_method_32_code (2 : Nat) (Option.some Jvm.ClassFile.FieldType.int), Jvm.Cond.methodLink "LyndonBenchModel" (105 : Nat) ({ cls := "LyndonBenchModel", name := "factors", desc := "()I" } : Jvm.MethodName), Jvm.Cond.privateMethod ({ cls := "LyndonBenchModel", name := "factors", desc := "()I" } : Jvm.MethodName), Jvm.Cond.instanceMethod ({ cls := "LyndonBenchModel", name := "factors", desc := "()I" } : Jvm.MethodName), Jvm.Cond.code ({ cls := "LyndonBenchModel", name := "factors", desc := "()I" } : Jvm.MethodName) prog_9_method_15_code (1 : Nat) (Option.some Jvm.ClassFile.FieldType.int), Jvm.Cond.methodLink "LyndonBenchModel" (76 : Nat) ({ cls := "LyndonBenchModel", name := "cuts", desc := "()I" } : Jvm.MethodName), Jvm.Cond.privateMethod ({ cls := "LyndonBenchModel", name := "cuts", desc := "()I" } : Jvm.MethodName), Jvm.Cond.instanceMethod ({ cls := "LyndonBenchModel", name := "cuts", desc := "()I" } : Jvm.MethodName), Jvm.Cond.code ({ cls := "LyndonBenchModel", name := "cuts", desc := "()I" } : Jvm.MethodName) prog_9_method_14_code (3 : Nat) (Option.some Jvm.ClassFile.FieldType.int), Jvm.Cond.methodLink "LyndonBenchModel" (69 : Nat) ({ cls := "LyndonBenchModel", name := "isLess", desc := "(II)Z" } : Jvm.MethodName), Jvm.Cond.privateMethod ({ cls := "LyndonBenchModel", name := "isLess", desc := "(II)Z" } : Jvm.MethodName), Jvm.Cond.instanceMethod ({ cls := "LyndonBenchModel", name := "isLess", desc := "(II)Z" } : Jvm.MethodName), Jvm.Cond.code ({ cls := "LyndonBenchModel", name := "isLess", desc := "(II)Z" } : Jvm.MethodName) prog_9_method_13_code (5 : Nat) (Option.some Jvm.ClassFile.FieldType.boolean), Jvm.Cond.methodLink "LyndonBenchModel" (281 : Nat) ({ cls := "LyndonBenchModel", name := "readsPart", desc := "()Z" } : Jvm.MethodName), Jvm.Cond.privateMethod ({ cls := "LyndonBenchModel", name := "readsPart", desc := "()Z" } : Jvm.MethodName), Jvm.Cond.instanceMethod ({ cls := "LyndonBenchModel", name := "readsPart", desc := "()Z" } : Jvm.MethodName)]
abbrev zl_5_14 : List Cond := [Jvm.Cond.code ({ cls := "LyndonBenchModel", name := "readsPart", desc := "()Z" } : Jvm.MethodName) prog_9_method_62_code (1 : Nat) (Option.some Jvm.ClassFile.FieldType.boolean), Jvm.Cond.methodLink "LyndonBenchModel" (196 : Nat) ({ cls := "LyndonBenchModel", name := "parts", desc := "(II)I" } : Jvm.MethodName), Jvm.Cond.privateMethod ({ cls := "LyndonBenchModel", name := "parts", desc := "(II)I" } : Jvm.MethodName), Jvm.Cond.instanceMethod ({ cls := "LyndonBenchModel", name := "parts", desc := "(II)I" } : Jvm.MethodName), Jvm.Cond.code ({ cls := "LyndonBenchModel", name := "parts", desc := "(II)I" } : Jvm.MethodName) prog_9_method_33_code (4 : Nat) (Option.some Jvm.ClassFile.FieldType.int), Jvm.Cond.methodLink "LyndonBenchModel" (284 : Nat) ({ cls := "LyndonBenchModel", name := "readsRotate", desc := "()Z" } : Jvm.MethodName), Jvm.Cond.privateMethod ({ cls := "LyndonBenchModel", name := "readsRotate", desc := "()Z" } : Jvm.MethodName), Jvm.Cond.instanceMethod ({ cls := "LyndonBenchModel", name := "readsRotate", desc := "()Z" } : Jvm.MethodName), Jvm.Cond.code ({ cls := "LyndonBenchModel", name := "readsRotate", desc := "()Z" } : Jvm.MethodName) prog_9_method_63_code (1 : Nat) (Option.some Jvm.ClassFile.FieldType.boolean), Jvm.Cond.methodLink "LyndonBenchModel" (114 : Nat) ({ cls := "LyndonBenchModel", name := "turns", desc := "(I)I" } : Jvm.MethodName), Jvm.Cond.privateMethod ({ cls := "LyndonBenchModel", name := "turns", desc := "(I)I" } : Jvm.MethodName), Jvm.Cond.instanceMethod ({ cls := "LyndonBenchModel", name := "turns", desc := "(I)I" } : Jvm.MethodName), Jvm.Cond.code ({ cls := "LyndonBenchModel", name := "turns", desc := "(I)I" } : Jvm.MethodName) prog_9_method_34_code (2 : Nat) (Option.some Jvm.ClassFile.FieldType.int), Jvm.Cond.methodLink "LyndonBenchModel" (108 : Nat) ({ cls := "LyndonBenchModel", name := "loadsRotated", desc := "(I)V" } : Jvm.MethodName), Jvm.Cond.privateMethod ({ cls := "LyndonBenchModel", name := "loadsRotated", desc := "(I)V" } : Jvm.MethodName), Jvm.Cond.instanceMethod ({ cls := "LyndonBenchModel", name := "loadsRotated", desc := "(I)V" } : Jvm.MethodName)]
set_option maxRecDepth 100000 in
theorem ztq_5 : tables_1_5 = zl_5_0 ++ (zl_5_1 ++ (zl_5_2 ++ (zl_5_3 ++ (zl_5_4 ++ (zl_5_5 ++ (zl_5_6 ++ (zl_5_7 ++ (zl_5_8 ++ (zl_5_9 ++ (zl_5_10 ++ (zl_5_11 ++ (zl_5_12 ++ (zl_5_13 ++ (zl_5_14)))))))))))))) := rfl
theorem zls_5_0 : ∀ w ∈ zl_5_0, w ∈ tables_1_5 := fun w hw => by
  rw [ztq_5]
  exact List.mem_append_left _ hw
def zlt_5_0 := zu_16 zls_5_0
theorem zls_5_1 : ∀ w ∈ zl_5_1, w ∈ tables_1_5 := fun w hw => by
  rw [ztq_5]
  exact List.mem_append_right _ (List.mem_append_left _ hw)
def zlt_5_1 := zu_16 zls_5_1
theorem zls_5_2 : ∀ w ∈ zl_5_2, w ∈ tables_1_5 := fun w hw => by
  rw [ztq_5]
  exact List.mem_append_right _ (List.mem_append_right _ (List.mem_append_left _ hw))
def zlt_5_2 := zu_16 zls_5_2
theorem zls_5_3 : ∀ w ∈ zl_5_3, w ∈ tables_1_5 := fun w hw => by
  rw [ztq_5]
  exact List.mem_append_right _ (List.mem_append_right _ (List.mem_append_right _ (List.mem_append_left _ hw)))
def zlt_5_3 := zu_16 zls_5_3
theorem zls_5_4 : ∀ w ∈ zl_5_4, w ∈ tables_1_5 := fun w hw => by
  rw [ztq_5]
  exact List.mem_append_right _ (List.mem_append_right _ (List.mem_append_right _ (List.mem_append_right _ (List.mem_append_left _ hw))))
def zlt_5_4 := zu_16 zls_5_4
theorem zls_5_5 : ∀ w ∈ zl_5_5, w ∈ tables_1_5 := fun w hw => by
  rw [ztq_5]
  exact List.mem_append_right _ (List.mem_append_right _ (List.mem_append_right _ (List.mem_append_right _ (List.mem_append_right _ (List.mem_append_left _ hw)))))
def zlt_5_5 := zu_16 zls_5_5
theorem zls_5_6 : ∀ w ∈ zl_5_6, w ∈ tables_1_5 := fun w hw => by
  rw [ztq_5]
  exact List.mem_append_right _ (List.mem_append_right _ (List.mem_append_right _ (List.mem_append_right _ (List.mem_append_right _ (List.mem_append_right _ (List.mem_append_left _ hw))))))
def zlt_5_6 := zu_16 zls_5_6
theorem zls_5_7 : ∀ w ∈ zl_5_7, w ∈ tables_1_5 := fun w hw => by
  rw [ztq_5]
  exact List.mem_append_right _ (List.mem_append_right _ (List.mem_append_right _ (List.mem_append_right _ (List.mem_append_right _ (List.mem_append_right _ (List.mem_append_right _ (List.mem_append_left _ hw)))))))
def zlt_5_7 := zu_16 zls_5_7
theorem zls_5_8 : ∀ w ∈ zl_5_8, w ∈ tables_1_5 := fun w hw => by
  rw [ztq_5]
  exact List.mem_append_right _ (List.mem_append_right _ (List.mem_append_right _ (List.mem_append_right _ (List.mem_append_right _ (List.mem_append_right _ (List.mem_append_right _ (List.mem_append_right _ (List.mem_append_left _ hw))))))))
def zlt_5_8 := zu_16 zls_5_8
theorem zls_5_9 : ∀ w ∈ zl_5_9, w ∈ tables_1_5 := fun w hw => by
  rw [ztq_5]
  exact List.mem_append_right _ (List.mem_append_right _ (List.mem_append_right _ (List.mem_append_right _ (List.mem_append_right _ (List.mem_append_right _ (List.mem_append_right _ (List.mem_append_right _ (List.mem_append_right _ (List.mem_append_left _ hw)))))))))
def zlt_5_9 := zu_16 zls_5_9
theorem zls_5_10 : ∀ w ∈ zl_5_10, w ∈ tables_1_5 := fun w hw => by
  rw [ztq_5]
  exact List.mem_append_right _ (List.mem_append_right _ (List.mem_append_right _ (List.mem_append_right _ (List.mem_append_right _ (List.mem_append_right _ (List.mem_append_right _ (List.mem_append_right _ (List.mem_append_right _ (List.mem_append_right _ (List.mem_append_left _ hw))))))))))
def zlt_5_10 := zu_16 zls_5_10
theorem zls_5_11 : ∀ w ∈ zl_5_11, w ∈ tables_1_5 := fun w hw => by
  rw [ztq_5]
  exact List.mem_append_right _ (List.mem_append_right _ (List.mem_append_right _ (List.mem_append_right _ (List.mem_append_right _ (List.mem_append_right _ (List.mem_append_right _ (List.mem_append_right _ (List.mem_append_right _ (List.mem_append_right _ (List.mem_append_right _ (List.mem_append_left _ hw)))))))))))
def zlt_5_11 := zu_16 zls_5_11
theorem zls_5_12 : ∀ w ∈ zl_5_12, w ∈ tables_1_5 := fun w hw => by
  rw [ztq_5]
  exact List.mem_append_right _ (List.mem_append_right _ (List.mem_append_right _ (List.mem_append_right _ (List.mem_append_right _ (List.mem_append_right _ (List.mem_append_right _ (List.mem_append_right _ (List.mem_append_right _ (List.mem_append_right _ (List.mem_append_right _ (List.mem_append_right _ (List.mem_append_left _ hw))))))))))))
def zlt_5_12 := zu_16 zls_5_12
theorem zls_5_13 : ∀ w ∈ zl_5_13, w ∈ tables_1_5 := fun w hw => by
  rw [ztq_5]
  exact List.mem_append_right _ (List.mem_append_right _ (List.mem_append_right _ (List.mem_append_right _ (List.mem_append_right _ (List.mem_append_right _ (List.mem_append_right _ (List.mem_append_right _ (List.mem_append_right _ (List.mem_append_right _ (List.mem_append_right _ (List.mem_append_right _ (List.mem_append_right _ (List.mem_append_left _ hw)))))))))))))
def zlt_5_13 := zu_16 zls_5_13
theorem zls_5_14 : ∀ w ∈ zl_5_14, w ∈ tables_1_5 := fun w hw => by
  rw [ztq_5]
  exact List.mem_append_right _ (List.mem_append_right _ (List.mem_append_right _ (List.mem_append_right _ (List.mem_append_right _ (List.mem_append_right _ (List.mem_append_right _ (List.mem_append_right _ (List.mem_append_right _ (List.mem_append_right _ (List.mem_append_right _ (List.mem_append_right _ (List.mem_append_right _ (List.mem_append_right _ (hw))))))))))))))
def zlt_5_14 := zu_16 zls_5_14
theorem z_mt6 {w : Cond} (h : w ∈ tables_1_6) (hg : goodWord w = true) : w ∈ za_Ts := List.mem_filter.mpr ⟨List.mem_append_right _ (show w ∈ tables_1 from List.mem_append_right _ (List.mem_append_right _ (List.mem_append_right _ (List.mem_append_right _ (List.mem_append_right _ (List.mem_append_left _ (h))))))), hg⟩
abbrev zl_6_0 : List Cond := [Jvm.Cond.code ({ cls := "LyndonBenchModel", name := "loadsRotated", desc := "(I)V" } : Jvm.MethodName) prog_9_method_12_code (3 : Nat) (Option.none : Option Jvm.ClassFile.FieldType), Jvm.Cond.methodLink "LyndonBenchModel" (287 : Nat) ({ cls := "LyndonBenchModel", name := "readsReverse", desc := "()Z" } : Jvm.MethodName), Jvm.Cond.privateMethod ({ cls := "LyndonBenchModel", name := "readsReverse", desc := "()Z" } : Jvm.MethodName), Jvm.Cond.instanceMethod ({ cls := "LyndonBenchModel", name := "readsReverse", desc := "()Z" } : Jvm.MethodName), Jvm.Cond.code ({ cls := "LyndonBenchModel", name := "readsReverse", desc := "()Z" } : Jvm.MethodName) prog_9_method_64_code (1 : Nat) (Option.some Jvm.ClassFile.FieldType.boolean), Jvm.Cond.methodLink "LyndonBenchModel" (199 : Nat) ({ cls := "LyndonBenchModel", name := "mirrors", desc := "()I" } : Jvm.MethodName), Jvm.Cond.privateMethod ({ cls := "LyndonBenchModel", name := "mirrors", desc := "()I" } : Jvm.MethodName), Jvm.Cond.instanceMethod ({ cls := "LyndonBenchModel", name := "mirrors", desc := "()I" } : Jvm.MethodName), Jvm.Cond.code ({ cls := "LyndonBenchModel", name := "mirrors", desc := "()I" } : Jvm.MethodName) prog_9_method_35_code (2 : Nat) (Option.some Jvm.ClassFile.FieldType.int), Jvm.Cond.methodLink "LyndonBenchModel" (290 : Nat) ({ cls := "LyndonBenchModel", name := "readsLeast", desc := "()Z" } : Jvm.MethodName), Jvm.Cond.privateMethod ({ cls := "LyndonBenchModel", name := "readsLeast", desc := "()Z" } : Jvm.MethodName), Jvm.Cond.instanceMethod ({ cls := "LyndonBenchModel", name := "readsLeast", desc := "()Z" } : Jvm.MethodName), Jvm.Cond.code ({ cls := "LyndonBenchModel", name := "readsLeast", desc := "()Z" } : Jvm.MethodName) prog_9_method_65_code (1 : Nat) (Option.some Jvm.ClassFile.FieldType.boolean), Jvm.Cond.methodLink "LyndonBenchModel" (202 : Nat) ({ cls := "LyndonBenchModel", name := "turnsToLeast", desc := "()I" } : Jvm.MethodName), Jvm.Cond.privateMethod ({ cls := "LyndonBenchModel", name := "turnsToLeast", desc := "()I" } : Jvm.MethodName), Jvm.Cond.instanceMethod ({ cls := "LyndonBenchModel", name := "turnsToLeast", desc := "()I" } : Jvm.MethodName)]
abbrev zl_6_1 : List Cond := [Jvm.Cond.code ({ cls := "LyndonBenchModel", name := "turnsToLeast", desc := "()I" } : Jvm.MethodName) prog_9_method_36_code (2 : Nat) (Option.some Jvm.ClassFile.FieldType.int), Jvm.Cond.methodLink "LyndonBenchModel" (111 : Nat) ({ cls := "LyndonBenchModel", name := "least", desc := "()I" } : Jvm.MethodName), Jvm.Cond.privateMethod ({ cls := "LyndonBenchModel", name := "least", desc := "()I" } : Jvm.MethodName), Jvm.Cond.instanceMethod ({ cls := "LyndonBenchModel", name := "least", desc := "()I" } : Jvm.MethodName), Jvm.Cond.code ({ cls := "LyndonBenchModel", name := "least", desc := "()I" } : Jvm.MethodName) prog_9_method_23_code (3 : Nat) (Option.some Jvm.ClassFile.FieldType.int), Jvm.Cond.methodLink "LyndonBenchModel" (90 : Nat) ({ cls := "LyndonBenchModel", name := "rotations", desc := "(II)I" } : Jvm.MethodName), Jvm.Cond.privateMethod ({ cls := "LyndonBenchModel", name := "rotations", desc := "(II)I" } : Jvm.MethodName), Jvm.Cond.instanceMethod ({ cls := "LyndonBenchModel", name := "rotations", desc := "(II)I" } : Jvm.MethodName), Jvm.Cond.code ({ cls := "LyndonBenchModel", name := "rotations", desc := "(II)I" } : Jvm.MethodName) prog_9_method_22_code (5 : Nat) (Option.some Jvm.ClassFile.FieldType.int), Jvm.Cond.methodLink "LyndonBenchModel" (293 : Nat) ({ cls := "LyndonBenchModel", name := "readsNext", desc := "()Z" } : Jvm.MethodName), Jvm.Cond.privateMethod ({ cls := "LyndonBenchModel", name := "readsNext", desc := "()Z" } : Jvm.MethodName), Jvm.Cond.instanceMethod ({ cls := "LyndonBenchModel", name := "readsNext", desc := "()Z" } : Jvm.MethodName), Jvm.Cond.code ({ cls := "LyndonBenchModel", name := "readsNext", desc := "()Z" } : Jvm.MethodName) prog_9_method_66_code (1 : Nat) (Option.some Jvm.ClassFile.FieldType.boolean), Jvm.Cond.methodLink "LyndonBenchModel" (205 : Nat) ({ cls := "LyndonBenchModel", name := "hasNext", desc := "(I)Z" } : Jvm.MethodName), Jvm.Cond.privateMethod ({ cls := "LyndonBenchModel", name := "hasNext", desc := "(I)Z" } : Jvm.MethodName), Jvm.Cond.instanceMethod ({ cls := "LyndonBenchModel", name := "hasNext", desc := "(I)Z" } : Jvm.MethodName)]
abbrev zl_6_2 : List Cond := [Jvm.Cond.code ({ cls := "LyndonBenchModel", name := "hasNext", desc := "(I)Z" } : Jvm.MethodName) prog_9_method_38_code (2 : Nat) (Option.some Jvm.ClassFile.FieldType.boolean), Jvm.Cond.methodLink "LyndonBenchModel" (117 : Nat) ({ cls := "LyndonBenchModel", name := "why", desc := "()I" } : Jvm.MethodName), Jvm.Cond.privateMethod ({ cls := "LyndonBenchModel", name := "why", desc := "()I" } : Jvm.MethodName), Jvm.Cond.instanceMethod ({ cls := "LyndonBenchModel", name := "why", desc := "()I" } : Jvm.MethodName), Jvm.Cond.code ({ cls := "LyndonBenchModel", name := "why", desc := "()I" } : Jvm.MethodName) prog_9_method_20_code (1 : Nat) (Option.some Jvm.ClassFile.FieldType.int), Jvm.Cond.methodLink "LyndonBenchModel" (84 : Nat) ({ cls := "LyndonBenchModel", name := "isPrimitiveRow", desc := "()Z" } : Jvm.MethodName), Jvm.Cond.privateMethod ({ cls := "LyndonBenchModel", name := "isPrimitiveRow", desc := "()Z" } : Jvm.MethodName), Jvm.Cond.instanceMethod ({ cls := "LyndonBenchModel", name := "isPrimitiveRow", desc := "()Z" } : Jvm.MethodName), Jvm.Cond.code ({ cls := "LyndonBenchModel", name := "isPrimitiveRow", desc := "()Z" } : Jvm.MethodName) prog_9_method_17_code (2 : Nat) (Option.some Jvm.ClassFile.FieldType.boolean), Jvm.Cond.methodLink "LyndonBenchModel" (80 : Nat) ({ cls := "LyndonBenchModel", name := "turned", desc := "(I)I" } : Jvm.MethodName), Jvm.Cond.privateMethod ({ cls := "LyndonBenchModel", name := "turned", desc := "(I)I" } : Jvm.MethodName), Jvm.Cond.instanceMethod ({ cls := "LyndonBenchModel", name := "turned", desc := "(I)I" } : Jvm.MethodName), Jvm.Cond.code ({ cls := "LyndonBenchModel", name := "turned", desc := "(I)I" } : Jvm.MethodName) prog_9_method_16_code (4 : Nat) (Option.some Jvm.ClassFile.FieldType.int), Jvm.Cond.methodLink "LyndonBenchModel" (87 : Nat) ({ cls := "LyndonBenchModel", name := "isLeastRow", desc := "()Z" } : Jvm.MethodName), Jvm.Cond.privateMethod ({ cls := "LyndonBenchModel", name := "isLeastRow", desc := "()Z" } : Jvm.MethodName), Jvm.Cond.instanceMethod ({ cls := "LyndonBenchModel", name := "isLeastRow", desc := "()Z" } : Jvm.MethodName)]
abbrev zl_6_3 : List Cond := [Jvm.Cond.code ({ cls := "LyndonBenchModel", name := "isLeastRow", desc := "()Z" } : Jvm.MethodName) prog_9_method_18_code (2 : Nat) (Option.some Jvm.ClassFile.FieldType.boolean), Jvm.Cond.methodLink "LyndonBenchModel" (120 : Nat) ({ cls := "LyndonBenchModel", name := "nexts", desc := "(I)V" } : Jvm.MethodName), Jvm.Cond.privateMethod ({ cls := "LyndonBenchModel", name := "nexts", desc := "(I)V" } : Jvm.MethodName), Jvm.Cond.instanceMethod ({ cls := "LyndonBenchModel", name := "nexts", desc := "(I)V" } : Jvm.MethodName), Jvm.Cond.code ({ cls := "LyndonBenchModel", name := "nexts", desc := "(I)V" } : Jvm.MethodName) prog_9_method_37_code (3 : Nat) (Option.none : Option Jvm.ClassFile.FieldType), Jvm.Cond.methodLink "LyndonBenchModel" (208 : Nat) ({ cls := "LyndonBenchModel", name := "goesOn", desc := "(I)I" } : Jvm.MethodName), Jvm.Cond.privateMethod ({ cls := "LyndonBenchModel", name := "goesOn", desc := "(I)I" } : Jvm.MethodName), Jvm.Cond.instanceMethod ({ cls := "LyndonBenchModel", name := "goesOn", desc := "(I)I" } : Jvm.MethodName), Jvm.Cond.code ({ cls := "LyndonBenchModel", name := "goesOn", desc := "(I)I" } : Jvm.MethodName) prog_9_method_39_code (2 : Nat) (Option.some Jvm.ClassFile.FieldType.int), Jvm.Cond.methodLink "LyndonBenchModel" (296 : Nat) ({ cls := "LyndonBenchModel", name := "readsKeep", desc := "()Z" } : Jvm.MethodName), Jvm.Cond.privateMethod ({ cls := "LyndonBenchModel", name := "readsKeep", desc := "()Z" } : Jvm.MethodName), Jvm.Cond.instanceMethod ({ cls := "LyndonBenchModel", name := "readsKeep", desc := "()Z" } : Jvm.MethodName), Jvm.Cond.code ({ cls := "LyndonBenchModel", name := "readsKeep", desc := "()Z" } : Jvm.MethodName) prog_9_method_67_code (2 : Nat) (Option.some Jvm.ClassFile.FieldType.boolean), Jvm.Cond.methodLink "LyndonBenchModel" (211 : Nat) ({ cls := "LyndonBenchModel", name := "canKeepText", desc := "()Z" } : Jvm.MethodName), Jvm.Cond.privateMethod ({ cls := "LyndonBenchModel", name := "canKeepText", desc := "()Z" } : Jvm.MethodName), Jvm.Cond.instanceMethod ({ cls := "LyndonBenchModel", name := "canKeepText", desc := "()Z" } : Jvm.MethodName)]
abbrev zl_6_4 : List Cond := [Jvm.Cond.code ({ cls := "LyndonBenchModel", name := "canKeepText", desc := "()Z" } : Jvm.MethodName) prog_9_method_42_code (1 : Nat) (Option.some Jvm.ClassFile.FieldType.boolean), Jvm.Cond.methodLink "LyndonBenchModel" (123 : Nat) ({ cls := "LyndonBenchModel", name := "shelves", desc := "(II)I" } : Jvm.MethodName), Jvm.Cond.privateMethod ({ cls := "LyndonBenchModel", name := "shelves", desc := "(II)I" } : Jvm.MethodName), Jvm.Cond.instanceMethod ({ cls := "LyndonBenchModel", name := "shelves", desc := "(II)I" } : Jvm.MethodName), Jvm.Cond.code ({ cls := "LyndonBenchModel", name := "shelves", desc := "(II)I" } : Jvm.MethodName) prog_9_method_40_code (5 : Nat) (Option.some Jvm.ClassFile.FieldType.int), Jvm.Cond.methodLink "LyndonBenchModel" (214 : Nat) ({ cls := "LyndonBenchModel", name := "canKeepFactor", desc := "(I)Z" } : Jvm.MethodName), Jvm.Cond.privateMethod ({ cls := "LyndonBenchModel", name := "canKeepFactor", desc := "(I)Z" } : Jvm.MethodName), Jvm.Cond.instanceMethod ({ cls := "LyndonBenchModel", name := "canKeepFactor", desc := "(I)Z" } : Jvm.MethodName), Jvm.Cond.code ({ cls := "LyndonBenchModel", name := "canKeepFactor", desc := "(I)Z" } : Jvm.MethodName) prog_9_method_41_code (2 : Nat) (Option.some Jvm.ClassFile.FieldType.boolean), Jvm.Cond.methodLink "LyndonBenchModel" (217 : Nat) ({ cls := "LyndonBenchModel", name := "keepsFactor", desc := "(I)I" } : Jvm.MethodName), Jvm.Cond.privateMethod ({ cls := "LyndonBenchModel", name := "keepsFactor", desc := "(I)I" } : Jvm.MethodName), Jvm.Cond.instanceMethod ({ cls := "LyndonBenchModel", name := "keepsFactor", desc := "(I)I" } : Jvm.MethodName), Jvm.Cond.code ({ cls := "LyndonBenchModel", name := "keepsFactor", desc := "(I)I" } : Jvm.MethodName) prog_9_method_43_code (2 : Nat) (Option.some Jvm.ClassFile.FieldType.int), Jvm.Cond.methodLink "LyndonBenchModel" (299 : Nat) ({ cls := "LyndonBenchModel", name := "readsRemove", desc := "()Z" } : Jvm.MethodName), Jvm.Cond.privateMethod ({ cls := "LyndonBenchModel", name := "readsRemove", desc := "()Z" } : Jvm.MethodName), Jvm.Cond.instanceMethod ({ cls := "LyndonBenchModel", name := "readsRemove", desc := "()Z" } : Jvm.MethodName)]
abbrev zl_6_5 : List Cond := [Jvm.Cond.code ({ cls := "LyndonBenchModel", name := "readsRemove", desc := "()Z" } : Jvm.MethodName) prog_9_method_68_code (1 : Nat) (Option.some Jvm.ClassFile.FieldType.boolean), Jvm.Cond.methodLink "LyndonBenchModel" (220 : Nat) ({ cls := "LyndonBenchModel", name := "removes", desc := "(I)I" } : Jvm.MethodName), Jvm.Cond.privateMethod ({ cls := "LyndonBenchModel", name := "removes", desc := "(I)I" } : Jvm.MethodName), Jvm.Cond.instanceMethod ({ cls := "LyndonBenchModel", name := "removes", desc := "(I)I" } : Jvm.MethodName), Jvm.Cond.code ({ cls := "LyndonBenchModel", name := "removes", desc := "(I)I" } : Jvm.MethodName) prog_9_method_44_code (4 : Nat) (Option.some Jvm.ClassFile.FieldType.int), Jvm.Cond.methodLink "LyndonBenchModel" (302 : Nat) ({ cls := "LyndonBenchModel", name := "readsJoin", desc := "()Z" } : Jvm.MethodName), Jvm.Cond.privateMethod ({ cls := "LyndonBenchModel", name := "readsJoin", desc := "()Z" } : Jvm.MethodName), Jvm.Cond.instanceMethod ({ cls := "LyndonBenchModel", name := "readsJoin", desc := "()Z" } : Jvm.MethodName), Jvm.Cond.code ({ cls := "LyndonBenchModel", name := "readsJoin", desc := "()Z" } : Jvm.MethodName) prog_9_method_69_code (1 : Nat) (Option.some Jvm.ClassFile.FieldType.boolean), Jvm.Cond.methodLink "LyndonBenchModel" (223 : Nat) ({ cls := "LyndonBenchModel", name := "canJoin", desc := "()Z" } : Jvm.MethodName), Jvm.Cond.privateMethod ({ cls := "LyndonBenchModel", name := "canJoin", desc := "()Z" } : Jvm.MethodName), Jvm.Cond.instanceMethod ({ cls := "LyndonBenchModel", name := "canJoin", desc := "()Z" } : Jvm.MethodName), Jvm.Cond.code ({ cls := "LyndonBenchModel", name := "canJoin", desc := "()Z" } : Jvm.MethodName) prog_9_method_46_code (1 : Nat) (Option.some Jvm.ClassFile.FieldType.boolean), Jvm.Cond.methodLink "LyndonBenchModel" (126 : Nat) ({ cls := "LyndonBenchModel", name := "shelfLength", desc := "()I" } : Jvm.MethodName), Jvm.Cond.privateMethod ({ cls := "LyndonBenchModel", name := "shelfLength", desc := "()I" } : Jvm.MethodName), Jvm.Cond.instanceMethod ({ cls := "LyndonBenchModel", name := "shelfLength", desc := "()I" } : Jvm.MethodName)]
abbrev zl_6_6 : List Cond := [Jvm.Cond.code ({ cls := "LyndonBenchModel", name := "shelfLength", desc := "()I" } : Jvm.MethodName) prog_9_method_45_code (3 : Nat) (Option.some Jvm.ClassFile.FieldType.int), Jvm.Cond.methodLink "LyndonBenchModel" (226 : Nat) ({ cls := "LyndonBenchModel", name := "joins", desc := "()I" } : Jvm.MethodName), Jvm.Cond.privateMethod ({ cls := "LyndonBenchModel", name := "joins", desc := "()I" } : Jvm.MethodName), Jvm.Cond.instanceMethod ({ cls := "LyndonBenchModel", name := "joins", desc := "()I" } : Jvm.MethodName), Jvm.Cond.code ({ cls := "LyndonBenchModel", name := "joins", desc := "()I" } : Jvm.MethodName) prog_9_method_48_code (5 : Nat) (Option.some Jvm.ClassFile.FieldType.int), Jvm.Cond.methodLink "LyndonBenchModel" (132 : Nat) ({ cls := "LyndonBenchModel", name := "greatestBeside", desc := "(I)I" } : Jvm.MethodName), Jvm.Cond.privateMethod ({ cls := "LyndonBenchModel", name := "greatestBeside", desc := "(I)I" } : Jvm.MethodName), Jvm.Cond.instanceMethod ({ cls := "LyndonBenchModel", name := "greatestBeside", desc := "(I)I" } : Jvm.MethodName), Jvm.Cond.code ({ cls := "LyndonBenchModel", name := "greatestBeside", desc := "(I)I" } : Jvm.MethodName) prog_9_method_47_code (4 : Nat) (Option.some Jvm.ClassFile.FieldType.int), Jvm.Cond.methodLink "LyndonBenchModel" (129 : Nat) ({ cls := "LyndonBenchModel", name := "shelved", desc := "(II)I" } : Jvm.MethodName), Jvm.Cond.privateMethod ({ cls := "LyndonBenchModel", name := "shelved", desc := "(II)I" } : Jvm.MethodName), Jvm.Cond.instanceMethod ({ cls := "LyndonBenchModel", name := "shelved", desc := "(II)I" } : Jvm.MethodName), Jvm.Cond.code ({ cls := "LyndonBenchModel", name := "shelved", desc := "(II)I" } : Jvm.MethodName) prog_9_method_9_code (3 : Nat) (Option.some Jvm.ClassFile.FieldType.int), Jvm.Cond.methodLink "LyndonBenchModel" (62 : Nat) ({ cls := "LyndonBenchModel", name := "compares", desc := "(IIII)I" } : Jvm.MethodName), Jvm.Cond.privateMethod ({ cls := "LyndonBenchModel", name := "compares", desc := "(IIII)I" } : Jvm.MethodName), Jvm.Cond.instanceMethod ({ cls := "LyndonBenchModel", name := "compares", desc := "(IIII)I" } : Jvm.MethodName)]
abbrev zl_6_7 : List Cond := [Jvm.Cond.code ({ cls := "LyndonBenchModel", name := "compares", desc := "(IIII)I" } : Jvm.MethodName) prog_9_method_8_code (6 : Nat) (Option.some Jvm.ClassFile.FieldType.int), Jvm.Cond.methodLink "LyndonBenchModel" (98 : Nat) ({ cls := "LyndonBenchModel", name := "adds", desc := "(I)V" } : Jvm.MethodName), Jvm.Cond.privateMethod ({ cls := "LyndonBenchModel", name := "adds", desc := "(I)V" } : Jvm.MethodName), Jvm.Cond.instanceMethod ({ cls := "LyndonBenchModel", name := "adds", desc := "(I)V" } : Jvm.MethodName), Jvm.Cond.code ({ cls := "LyndonBenchModel", name := "adds", desc := "(I)V" } : Jvm.MethodName) prog_9_method_11_code (2 : Nat) (Option.none : Option Jvm.ClassFile.FieldType), Jvm.Cond.fieldLink "LyndonBenchModel" (7 : Nat) "LyndonBenchModel" "w" "[I", Jvm.Cond.fieldLink "LyndonBenchModel" (13 : Nat) "LyndonBenchModel" "before" "[I", Jvm.Cond.fieldLink "LyndonBenchModel" (16 : Nat) "LyndonBenchModel" "past" "[I", Jvm.Cond.fieldLink "LyndonBenchModel" (19 : Nat) "LyndonBenchModel" "kept" "[I", Jvm.Cond.fieldLink "LyndonBenchModel" (319 : Nat) "LyndonBenchModel" "pastMany" "I", Jvm.Cond.fieldLink "LyndonBenchModel" (340 : Nat) "LyndonBenchModel" "isKept" "Z", Jvm.Cond.fieldLink "LyndonBenchModel" (22 : Nat) "LyndonBenchModel" "buffer" "[I", Jvm.Cond.fieldLink "LyndonBenchModel" (25 : Nat) "LyndonBenchModel" "text" "[I", Jvm.Cond.fieldLink "LyndonBenchModel" (28 : Nat) "LyndonBenchModel" "row" "[I", Jvm.Cond.fieldLink "LyndonBenchModel" (31 : Nat) "LyndonBenchModel" "starts" "[I", Jvm.Cond.fieldLink "LyndonBenchModel" (310 : Nat) "LyndonBenchModel" "typed" "I"]
abbrev zl_6_8 : List Cond := [Jvm.Cond.fieldLink "LyndonBenchModel" (145 : Nat) "LyndonBenchModel" "textLength" "I", Jvm.Cond.fieldLink "LyndonBenchModel" (167 : Nat) "LyndonBenchModel" "errorKind" "I", Jvm.Cond.fieldLink "LyndonBenchModel" (34 : Nat) "LyndonBenchModel" "errorOffset" "I", Jvm.Cond.fieldLink "LyndonBenchModel" (66 : Nat) "LyndonBenchModel" "rowLength" "I", Jvm.Cond.fieldLink "LyndonBenchModel" (38 : Nat) "LyndonBenchModel" "report" "[C", Jvm.Cond.fieldLink "LyndonBenchModel" (386 : Nat) "LyndonBenchModel" "reportLength" "I", Jvm.Cond.fieldLink "LyndonBenchModel" (55 : Nat) "LyndonBenchModel" "thrown" "I", Jvm.Cond.fieldLink "LyndonBenchModel" (158 : Nat) "LyndonBenchModel" "kind" "I", Jvm.Cond.fieldLink "LyndonBenchModel" (155 : Nat) "LyndonBenchModel" "offset" "I", Jvm.Cond.fieldLink "LyndonBenchModel" (152 : Nat) "LyndonBenchModel" "tokenEnd" "I", Jvm.Cond.fieldLink "LyndonBenchModel" (164 : Nat) "LyndonBenchModel" "value" "I", Jvm.Cond.fieldLink "LyndonBenchModel" (266 : Nat) "LyndonBenchModel" "executed" "I", Jvm.Cond.fieldLink "LyndonBenchModel" (42 : Nat) "LyndonBenchModel" "numbers" "[I", Jvm.Cond.laysFinal "LyndonBenchModel" "LyndonBenchModel" "w" "[I", Jvm.Cond.soleField "LyndonBenchModel" "w", Jvm.Cond.laysFinal "LyndonBenchModel" "LyndonBenchModel" "before" "[I"]
abbrev zl_6_9 : List Cond := [Jvm.Cond.soleField "LyndonBenchModel" "before", Jvm.Cond.laysFinal "LyndonBenchModel" "LyndonBenchModel" "past" "[I", Jvm.Cond.soleField "LyndonBenchModel" "past", Jvm.Cond.laysFinal "LyndonBenchModel" "LyndonBenchModel" "kept" "[I", Jvm.Cond.soleField "LyndonBenchModel" "kept", Jvm.Cond.lays "LyndonBenchModel" "LyndonBenchModel" "pastMany" "I", Jvm.Cond.soleField "LyndonBenchModel" "pastMany", Jvm.Cond.lays "LyndonBenchModel" "LyndonBenchModel" "isKept" "Z", Jvm.Cond.soleField "LyndonBenchModel" "isKept", Jvm.Cond.laysFinal "LyndonBenchModel" "LyndonBenchModel" "buffer" "[I", Jvm.Cond.soleField "LyndonBenchModel" "buffer", Jvm.Cond.laysFinal "LyndonBenchModel" "LyndonBenchModel" "text" "[I", Jvm.Cond.soleField "LyndonBenchModel" "text", Jvm.Cond.laysFinal "LyndonBenchModel" "LyndonBenchModel" "row" "[I", Jvm.Cond.soleField "LyndonBenchModel" "row", Jvm.Cond.laysFinal "LyndonBenchModel" "LyndonBenchModel" "starts" "[I"]
abbrev zl_6_10 : List Cond := [Jvm.Cond.soleField "LyndonBenchModel" "starts", Jvm.Cond.lays "LyndonBenchModel" "LyndonBenchModel" "typed" "I", Jvm.Cond.soleField "LyndonBenchModel" "typed", Jvm.Cond.lays "LyndonBenchModel" "LyndonBenchModel" "textLength" "I", Jvm.Cond.soleField "LyndonBenchModel" "textLength", Jvm.Cond.lays "LyndonBenchModel" "LyndonBenchModel" "errorKind" "I", Jvm.Cond.soleField "LyndonBenchModel" "errorKind", Jvm.Cond.lays "LyndonBenchModel" "LyndonBenchModel" "errorOffset" "I", Jvm.Cond.soleField "LyndonBenchModel" "errorOffset", Jvm.Cond.lays "LyndonBenchModel" "LyndonBenchModel" "rowLength" "I", Jvm.Cond.soleField "LyndonBenchModel" "rowLength", Jvm.Cond.laysFinal "LyndonBenchModel" "LyndonBenchModel" "report" "[C", Jvm.Cond.soleField "LyndonBenchModel" "report", Jvm.Cond.lays "LyndonBenchModel" "LyndonBenchModel" "reportLength" "I", Jvm.Cond.soleField "LyndonBenchModel" "reportLength", Jvm.Cond.lays "LyndonBenchModel" "LyndonBenchModel" "thrown" "I"]
abbrev zl_6_11 : List Cond := [Jvm.Cond.soleField "LyndonBenchModel" "thrown", Jvm.Cond.lays "LyndonBenchModel" "LyndonBenchModel" "kind" "I", Jvm.Cond.soleField "LyndonBenchModel" "kind", Jvm.Cond.lays "LyndonBenchModel" "LyndonBenchModel" "offset" "I", Jvm.Cond.soleField "LyndonBenchModel" "offset", Jvm.Cond.lays "LyndonBenchModel" "LyndonBenchModel" "tokenEnd" "I", Jvm.Cond.soleField "LyndonBenchModel" "tokenEnd", Jvm.Cond.lays "LyndonBenchModel" "LyndonBenchModel" "value" "I", Jvm.Cond.soleField "LyndonBenchModel" "value", Jvm.Cond.lays "LyndonBenchModel" "LyndonBenchModel" "executed" "I", Jvm.Cond.soleField "LyndonBenchModel" "executed", Jvm.Cond.laysFinal "LyndonBenchModel" "LyndonBenchModel" "numbers" "[I", Jvm.Cond.soleField "LyndonBenchModel" "numbers", Jvm.Cond.superclass "LyndonBenchModel" "java/lang/Object", Jvm.Cond.arrayClass Jvm.ClassFile.FieldType.char, Jvm.Cond.methodLink "LyndonBenchLaw" (108 : Nat) ({ cls := "LyndonBenchModel", name := "append", desc := "(IIIII)I" } : Jvm.MethodName)]
abbrev zl_6_12 : List Cond := [Jvm.Cond.instanceMethod ({ cls := "LyndonBenchModel", name := "append", desc := "(IIIII)I" } : Jvm.MethodName), Jvm.Cond.selects "LyndonBenchModel" ({ cls := "LyndonBenchModel", name := "append", desc := "(IIIII)I" } : Jvm.MethodName) ({ cls := "LyndonBenchModel", name := "append", desc := "(IIIII)I" } : Jvm.MethodName), Jvm.Cond.code ({ cls := "LyndonBenchModel", name := "append", desc := "(IIIII)I" } : Jvm.MethodName) prog_9_method_77_code (6 : Nat) (Option.some Jvm.ClassFile.FieldType.int), Jvm.Cond.methodLink "LyndonBenchModel" (313 : Nat) ({ cls := "LyndonBenchModel", name := "type", desc := "(I)V" } : Jvm.MethodName), Jvm.Cond.privateMethod ({ cls := "LyndonBenchModel", name := "type", desc := "(I)V" } : Jvm.MethodName), Jvm.Cond.instanceMethod ({ cls := "LyndonBenchModel", name := "type", desc := "(I)V" } : Jvm.MethodName), Jvm.Cond.code ({ cls := "LyndonBenchModel", name := "type", desc := "(I)V" } : Jvm.MethodName) prog_9_method_78_code (3 : Nat) (Option.none : Option Jvm.ClassFile.FieldType), Jvm.Cond.methodLink "LyndonBenchLaw" (114 : Nat) ({ cls := "LyndonBenchModel", name := "truncateInput", desc := "(I)I" } : Jvm.MethodName), Jvm.Cond.instanceMethod ({ cls := "LyndonBenchModel", name := "truncateInput", desc := "(I)I" } : Jvm.MethodName), Jvm.Cond.selects "LyndonBenchModel" ({ cls := "LyndonBenchModel", name := "truncateInput", desc := "(I)I" } : Jvm.MethodName) ({ cls := "LyndonBenchModel", name := "truncateInput", desc := "(I)I" } : Jvm.MethodName), Jvm.Cond.code ({ cls := "LyndonBenchModel", name := "truncateInput", desc := "(I)I" } : Jvm.MethodName) prog_9_method_79_code (2 : Nat) (Option.some Jvm.ClassFile.FieldType.int), Jvm.Cond.methodLink "LyndonBenchModel" (316 : Nat) ({ cls := "LyndonBenchModel", name := "throwsOne", desc := "(Z)Z" } : Jvm.MethodName), Jvm.Cond.privateMethod ({ cls := "LyndonBenchModel", name := "throwsOne", desc := "(Z)Z" } : Jvm.MethodName), Jvm.Cond.instanceMethod ({ cls := "LyndonBenchModel", name := "throwsOne", desc := "(Z)Z" } : Jvm.MethodName), Jvm.Cond.code ({ cls := "LyndonBenchModel", name := "throwsOne", desc := "(Z)Z" } : Jvm.MethodName) prog_9_method_4_code (2 : Nat) (Option.some Jvm.ClassFile.FieldType.boolean), Jvm.Cond.methodLink "LyndonBenchLaw" (118 : Nat) ({ cls := "LyndonBenchModel", name := "runScript", desc := "()I" } : Jvm.MethodName)]
abbrev zl_6_13 : List Cond := [Jvm.Cond.instanceMethod ({ cls := "LyndonBenchModel", name := "runScript", desc := "()I" } : Jvm.MethodName), Jvm.Cond.selects "LyndonBenchModel" ({ cls := "LyndonBenchModel", name := "runScript", desc := "()I" } : Jvm.MethodName) ({ cls := "LyndonBenchModel", name := "runScript", desc := "()I" } : Jvm.MethodName), Jvm.Cond.code ({ cls := "LyndonBenchModel", name := "runScript", desc := "()I" } : Jvm.MethodName) prog_9_method_82_code (2 : Nat) (Option.some Jvm.ClassFile.FieldType.int), Jvm.Cond.methodLink "LyndonBenchModel" (322 : Nat) ({ cls := "LyndonBenchModel", name := "begins", desc := "()V" } : Jvm.MethodName), Jvm.Cond.privateMethod ({ cls := "LyndonBenchModel", name := "begins", desc := "()V" } : Jvm.MethodName), Jvm.Cond.instanceMethod ({ cls := "LyndonBenchModel", name := "begins", desc := "()V" } : Jvm.MethodName), Jvm.Cond.code ({ cls := "LyndonBenchModel", name := "begins", desc := "()V" } : Jvm.MethodName) prog_9_method_80_code (2 : Nat) (Option.none : Option Jvm.ClassFile.FieldType), Jvm.Cond.methodLink "LyndonBenchModel" (325 : Nat) ({ cls := "LyndonBenchModel", name := "remember", desc := "(I)I" } : Jvm.MethodName), Jvm.Cond.privateMethod ({ cls := "LyndonBenchModel", name := "remember", desc := "(I)I" } : Jvm.MethodName), Jvm.Cond.instanceMethod ({ cls := "LyndonBenchModel", name := "remember", desc := "(I)I" } : Jvm.MethodName), Jvm.Cond.code ({ cls := "LyndonBenchModel", name := "remember", desc := "(I)I" } : Jvm.MethodName) prog_9_method_81_code (3 : Nat) (Option.some Jvm.ClassFile.FieldType.int), Jvm.Cond.methodLink "LyndonBenchLaw" (121 : Nat) ({ cls := "LyndonBenchModel", name := "setLetters", desc := "(I)I" } : Jvm.MethodName), Jvm.Cond.instanceMethod ({ cls := "LyndonBenchModel", name := "setLetters", desc := "(I)I" } : Jvm.MethodName), Jvm.Cond.selects "LyndonBenchModel" ({ cls := "LyndonBenchModel", name := "setLetters", desc := "(I)I" } : Jvm.MethodName) ({ cls := "LyndonBenchModel", name := "setLetters", desc := "(I)I" } : Jvm.MethodName), Jvm.Cond.code ({ cls := "LyndonBenchModel", name := "setLetters", desc := "(I)I" } : Jvm.MethodName) prog_9_method_83_code (4 : Nat) (Option.some Jvm.ClassFile.FieldType.int), Jvm.Cond.methodLink "LyndonBenchModel" (328 : Nat) ({ cls := "LyndonBenchModel", name := "canHave", desc := "(I)Z" } : Jvm.MethodName)]
abbrev zl_6_14 : List Cond := [Jvm.Cond.privateMethod ({ cls := "LyndonBenchModel", name := "canHave", desc := "(I)Z" } : Jvm.MethodName), Jvm.Cond.instanceMethod ({ cls := "LyndonBenchModel", name := "canHave", desc := "(I)Z" } : Jvm.MethodName), Jvm.Cond.code ({ cls := "LyndonBenchModel", name := "canHave", desc := "(I)Z" } : Jvm.MethodName) prog_9_method_49_code (4 : Nat) (Option.some Jvm.ClassFile.FieldType.boolean), Jvm.Cond.methodLink "LyndonBenchModel" (135 : Nat) ({ cls := "java/lang/Math", name := "max", desc := "(II)I" } : Jvm.MethodName), Jvm.Cond.methodLink "LyndonBenchModel" (331 : Nat) ({ cls := "LyndonBenchModel", name := "throwsOne", desc := "(ZZ)Z" } : Jvm.MethodName), Jvm.Cond.privateMethod ({ cls := "LyndonBenchModel", name := "throwsOne", desc := "(ZZ)Z" } : Jvm.MethodName), Jvm.Cond.instanceMethod ({ cls := "LyndonBenchModel", name := "throwsOne", desc := "(ZZ)Z" } : Jvm.MethodName), Jvm.Cond.code ({ cls := "LyndonBenchModel", name := "throwsOne", desc := "(ZZ)Z" } : Jvm.MethodName) prog_9_method_5_code (3 : Nat) (Option.some Jvm.ClassFile.FieldType.boolean), Jvm.Cond.methodLink "LyndonBenchLaw" (125 : Nat) ({ cls := "LyndonBenchModel", name := "readText", desc := "()I" } : Jvm.MethodName), Jvm.Cond.instanceMethod ({ cls := "LyndonBenchModel", name := "readText", desc := "()I" } : Jvm.MethodName), Jvm.Cond.selects "LyndonBenchModel" ({ cls := "LyndonBenchModel", name := "readText", desc := "()I" } : Jvm.MethodName) ({ cls := "LyndonBenchModel", name := "readText", desc := "()I" } : Jvm.MethodName), Jvm.Cond.code ({ cls := "LyndonBenchModel", name := "readText", desc := "()I" } : Jvm.MethodName) prog_9_method_84_code (3 : Nat) (Option.some Jvm.ClassFile.FieldType.int), Jvm.Cond.methodLink "LyndonBenchLaw" (128 : Nat) ({ cls := "LyndonBenchModel", name := "appendLetter", desc := "(I)I" } : Jvm.MethodName), Jvm.Cond.instanceMethod ({ cls := "LyndonBenchModel", name := "appendLetter", desc := "(I)I" } : Jvm.MethodName), Jvm.Cond.selects "LyndonBenchModel" ({ cls := "LyndonBenchModel", name := "appendLetter", desc := "(I)I" } : Jvm.MethodName) ({ cls := "LyndonBenchModel", name := "appendLetter", desc := "(I)I" } : Jvm.MethodName), Jvm.Cond.code ({ cls := "LyndonBenchModel", name := "appendLetter", desc := "(I)I" } : Jvm.MethodName) prog_9_method_85_code (2 : Nat) (Option.some Jvm.ClassFile.FieldType.int)]
set_option maxRecDepth 100000 in
theorem ztq_6 : tables_1_6 = zl_6_0 ++ (zl_6_1 ++ (zl_6_2 ++ (zl_6_3 ++ (zl_6_4 ++ (zl_6_5 ++ (zl_6_6 ++ (zl_6_7 ++ (zl_6_8 ++ (zl_6_9 ++ (zl_6_10 ++ (zl_6_11 ++ (zl_6_12 ++ (zl_6_13 ++ (zl_6_14)))))))))))))) := rfl
theorem zls_6_0 : ∀ w ∈ zl_6_0, w ∈ tables_1_6 := fun w hw => by
  rw [ztq_6]
  exact List.mem_append_left _ hw
def zlt_6_0 := zu_16 zls_6_0
theorem zls_6_1 : ∀ w ∈ zl_6_1, w ∈ tables_1_6 := fun w hw => by
  rw [ztq_6]
  exact List.mem_append_right _ (List.mem_append_left _ hw)
def zlt_6_1 := zu_16 zls_6_1
theorem zls_6_2 : ∀ w ∈ zl_6_2, w ∈ tables_1_6 := fun w hw => by
  rw [ztq_6]
  exact List.mem_append_right _ (List.mem_append_right _ (List.mem_append_left _ hw))
def zlt_6_2 := zu_16 zls_6_2
theorem zls_6_3 : ∀ w ∈ zl_6_3, w ∈ tables_1_6 := fun w hw => by
  rw [ztq_6]
  exact List.mem_append_right _ (List.mem_append_right _ (List.mem_append_right _ (List.mem_append_left _ hw)))
def zlt_6_3 := zu_16 zls_6_3
theorem zls_6_4 : ∀ w ∈ zl_6_4, w ∈ tables_1_6 := fun w hw => by
  rw [ztq_6]
  exact List.mem_append_right _ (List.mem_append_right _ (List.mem_append_right _ (List.mem_append_right _ (List.mem_append_left _ hw))))
def zlt_6_4 := zu_16 zls_6_4
theorem zls_6_5 : ∀ w ∈ zl_6_5, w ∈ tables_1_6 := fun w hw => by
  rw [ztq_6]
  exact List.mem_append_right _ (List.mem_append_right _ (List.mem_append_right _ (List.mem_append_right _ (List.mem_append_right _ (List.mem_append_left _ hw)))))
def zlt_6_5 := zu_16 zls_6_5
theorem zls_6_6 : ∀ w ∈ zl_6_6, w ∈ tables_1_6 := fun w hw => by
  rw [ztq_6]
  exact List.mem_append_right _ (List.mem_append_right _ (List.mem_append_right _ (List.mem_append_right _ (List.mem_append_right _ (List.mem_append_right _ (List.mem_append_left _ hw))))))
def zlt_6_6 := zu_16 zls_6_6
theorem zls_6_7 : ∀ w ∈ zl_6_7, w ∈ tables_1_6 := fun w hw => by
  rw [ztq_6]
  exact List.mem_append_right _ (List.mem_append_right _ (List.mem_append_right _ (List.mem_append_right _ (List.mem_append_right _ (List.mem_append_right _ (List.mem_append_right _ (List.mem_append_left _ hw)))))))
def zlt_6_7 := zu_16 zls_6_7
theorem zls_6_8 : ∀ w ∈ zl_6_8, w ∈ tables_1_6 := fun w hw => by
  rw [ztq_6]
  exact List.mem_append_right _ (List.mem_append_right _ (List.mem_append_right _ (List.mem_append_right _ (List.mem_append_right _ (List.mem_append_right _ (List.mem_append_right _ (List.mem_append_right _ (List.mem_append_left _ hw))))))))
def zlt_6_8 := zu_16 zls_6_8
theorem zls_6_9 : ∀ w ∈ zl_6_9, w ∈ tables_1_6 := fun w hw => by
  rw [ztq_6]
  exact List.mem_append_right _ (List.mem_append_right _ (List.mem_append_right _ (List.mem_append_right _ (List.mem_append_right _ (List.mem_append_right _ (List.mem_append_right _ (List.mem_append_right _ (List.mem_append_right _ (List.mem_append_left _ hw)))))))))
def zlt_6_9 := zu_16 zls_6_9
theorem zls_6_10 : ∀ w ∈ zl_6_10, w ∈ tables_1_6 := fun w hw => by
  rw [ztq_6]
  exact List.mem_append_right _ (List.mem_append_right _ (List.mem_append_right _ (List.mem_append_right _ (List.mem_append_right _ (List.mem_append_right _ (List.mem_append_right _ (List.mem_append_right _ (List.mem_append_right _ (List.mem_append_right _ (List.mem_append_left _ hw))))))))))
def zlt_6_10 := zu_16 zls_6_10
theorem zls_6_11 : ∀ w ∈ zl_6_11, w ∈ tables_1_6 := fun w hw => by
  rw [ztq_6]
  exact List.mem_append_right _ (List.mem_append_right _ (List.mem_append_right _ (List.mem_append_right _ (List.mem_append_right _ (List.mem_append_right _ (List.mem_append_right _ (List.mem_append_right _ (List.mem_append_right _ (List.mem_append_right _ (List.mem_append_right _ (List.mem_append_left _ hw)))))))))))
def zlt_6_11 := zu_16 zls_6_11
theorem zls_6_12 : ∀ w ∈ zl_6_12, w ∈ tables_1_6 := fun w hw => by
  rw [ztq_6]
  exact List.mem_append_right _ (List.mem_append_right _ (List.mem_append_right _ (List.mem_append_right _ (List.mem_append_right _ (List.mem_append_right _ (List.mem_append_right _ (List.mem_append_right _ (List.mem_append_right _ (List.mem_append_right _ (List.mem_append_right _ (List.mem_append_right _ (List.mem_append_left _ hw))))))))))))
def zlt_6_12 := zu_16 zls_6_12
theorem zls_6_13 : ∀ w ∈ zl_6_13, w ∈ tables_1_6 := fun w hw => by
  rw [ztq_6]
  exact List.mem_append_right _ (List.mem_append_right _ (List.mem_append_right _ (List.mem_append_right _ (List.mem_append_right _ (List.mem_append_right _ (List.mem_append_right _ (List.mem_append_right _ (List.mem_append_right _ (List.mem_append_right _ (List.mem_append_right _ (List.mem_append_right _ (List.mem_append_right _ (List.mem_append_left _ hw)))))))))))))
def zlt_6_13 := zu_16 zls_6_13
theorem zls_6_14 : ∀ w ∈ zl_6_14, w ∈ tables_1_6 := fun w hw => by
  rw [ztq_6]
  exact List.mem_append_right _ (List.mem_append_right _ (List.mem_append_right _ (List.mem_append_right _ (List.mem_append_right _ (List.mem_append_right _ (List.mem_append_right _ (List.mem_append_right _ (List.mem_append_right _ (List.mem_append_right _ (List.mem_append_right _ (List.mem_append_right _ (List.mem_append_right _ (List.mem_append_right _ (hw))))))))))))))
def zlt_6_14 := zu_16 zls_6_14
theorem z_mt7 {w : Cond} (h : w ∈ tables_1_7) (hg : goodWord w = true) : w ∈ za_Ts := List.mem_filter.mpr ⟨List.mem_append_right _ (show w ∈ tables_1 from List.mem_append_right _ (List.mem_append_right _ (List.mem_append_right _ (List.mem_append_right _ (List.mem_append_right _ (List.mem_append_right _ (List.mem_append_left _ (h)))))))), hg⟩
abbrev zl_7_0 : List Cond := [Jvm.Cond.methodLink "LyndonBenchModel" (334 : Nat) ({ cls := "LyndonBenchModel", name := "appends", desc := "(I)I" } : Jvm.MethodName), Jvm.Cond.privateMethod ({ cls := "LyndonBenchModel", name := "appends", desc := "(I)I" } : Jvm.MethodName), Jvm.Cond.instanceMethod ({ cls := "LyndonBenchModel", name := "appends", desc := "(I)I" } : Jvm.MethodName), Jvm.Cond.code ({ cls := "LyndonBenchModel", name := "appends", desc := "(I)I" } : Jvm.MethodName) prog_9_method_31_code (2 : Nat) (Option.some Jvm.ClassFile.FieldType.int), Jvm.Cond.methodLink "LyndonBenchLaw" (131 : Nat) ({ cls := "LyndonBenchModel", name := "dropLast", desc := "(I)I" } : Jvm.MethodName), Jvm.Cond.instanceMethod ({ cls := "LyndonBenchModel", name := "dropLast", desc := "(I)I" } : Jvm.MethodName), Jvm.Cond.selects "LyndonBenchModel" ({ cls := "LyndonBenchModel", name := "dropLast", desc := "(I)I" } : Jvm.MethodName) ({ cls := "LyndonBenchModel", name := "dropLast", desc := "(I)I" } : Jvm.MethodName), Jvm.Cond.code ({ cls := "LyndonBenchModel", name := "dropLast", desc := "(I)I" } : Jvm.MethodName) prog_9_method_86_code (2 : Nat) (Option.some Jvm.ClassFile.FieldType.int), Jvm.Cond.methodLink "LyndonBenchLaw" (135 : Nat) ({ cls := "LyndonBenchModel", name := "cutPart", desc := "(II)I" } : Jvm.MethodName), Jvm.Cond.instanceMethod ({ cls := "LyndonBenchModel", name := "cutPart", desc := "(II)I" } : Jvm.MethodName), Jvm.Cond.selects "LyndonBenchModel" ({ cls := "LyndonBenchModel", name := "cutPart", desc := "(II)I" } : Jvm.MethodName) ({ cls := "LyndonBenchModel", name := "cutPart", desc := "(II)I" } : Jvm.MethodName), Jvm.Cond.code ({ cls := "LyndonBenchModel", name := "cutPart", desc := "(II)I" } : Jvm.MethodName) prog_9_method_87_code (3 : Nat) (Option.some Jvm.ClassFile.FieldType.int), Jvm.Cond.methodLink "LyndonBenchLaw" (138 : Nat) ({ cls := "LyndonBenchModel", name := "rotate", desc := "(I)I" } : Jvm.MethodName), Jvm.Cond.instanceMethod ({ cls := "LyndonBenchModel", name := "rotate", desc := "(I)I" } : Jvm.MethodName), Jvm.Cond.selects "LyndonBenchModel" ({ cls := "LyndonBenchModel", name := "rotate", desc := "(I)I" } : Jvm.MethodName) ({ cls := "LyndonBenchModel", name := "rotate", desc := "(I)I" } : Jvm.MethodName), Jvm.Cond.code ({ cls := "LyndonBenchModel", name := "rotate", desc := "(I)I" } : Jvm.MethodName) prog_9_method_88_code (2 : Nat) (Option.some Jvm.ClassFile.FieldType.int)]
abbrev zl_7_1 : List Cond := [Jvm.Cond.methodLink "LyndonBenchLaw" (142 : Nat) ({ cls := "LyndonBenchModel", name := "reverse", desc := "()I" } : Jvm.MethodName), Jvm.Cond.instanceMethod ({ cls := "LyndonBenchModel", name := "reverse", desc := "()I" } : Jvm.MethodName), Jvm.Cond.selects "LyndonBenchModel" ({ cls := "LyndonBenchModel", name := "reverse", desc := "()I" } : Jvm.MethodName) ({ cls := "LyndonBenchModel", name := "reverse", desc := "()I" } : Jvm.MethodName), Jvm.Cond.code ({ cls := "LyndonBenchModel", name := "reverse", desc := "()I" } : Jvm.MethodName) prog_9_method_89_code (1 : Nat) (Option.some Jvm.ClassFile.FieldType.int), Jvm.Cond.methodLink "LyndonBenchLaw" (145 : Nat) ({ cls := "LyndonBenchModel", name := "rotateToLeast", desc := "()I" } : Jvm.MethodName), Jvm.Cond.instanceMethod ({ cls := "LyndonBenchModel", name := "rotateToLeast", desc := "()I" } : Jvm.MethodName), Jvm.Cond.selects "LyndonBenchModel" ({ cls := "LyndonBenchModel", name := "rotateToLeast", desc := "()I" } : Jvm.MethodName) ({ cls := "LyndonBenchModel", name := "rotateToLeast", desc := "()I" } : Jvm.MethodName), Jvm.Cond.code ({ cls := "LyndonBenchModel", name := "rotateToLeast", desc := "()I" } : Jvm.MethodName) prog_9_method_90_code (1 : Nat) (Option.some Jvm.ClassFile.FieldType.int), Jvm.Cond.methodLink "LyndonBenchLaw" (148 : Nat) ({ cls := "LyndonBenchModel", name := "nextLyndon", desc := "(I)I" } : Jvm.MethodName), Jvm.Cond.instanceMethod ({ cls := "LyndonBenchModel", name := "nextLyndon", desc := "(I)I" } : Jvm.MethodName), Jvm.Cond.selects "LyndonBenchModel" ({ cls := "LyndonBenchModel", name := "nextLyndon", desc := "(I)I" } : Jvm.MethodName) ({ cls := "LyndonBenchModel", name := "nextLyndon", desc := "(I)I" } : Jvm.MethodName), Jvm.Cond.code ({ cls := "LyndonBenchModel", name := "nextLyndon", desc := "(I)I" } : Jvm.MethodName) prog_9_method_91_code (3 : Nat) (Option.some Jvm.ClassFile.FieldType.int), Jvm.Cond.methodLink "LyndonBenchLaw" (151 : Nat) ({ cls := "LyndonBenchModel", name := "keepFactor", desc := "(I)I" } : Jvm.MethodName), Jvm.Cond.instanceMethod ({ cls := "LyndonBenchModel", name := "keepFactor", desc := "(I)I" } : Jvm.MethodName), Jvm.Cond.selects "LyndonBenchModel" ({ cls := "LyndonBenchModel", name := "keepFactor", desc := "(I)I" } : Jvm.MethodName) ({ cls := "LyndonBenchModel", name := "keepFactor", desc := "(I)I" } : Jvm.MethodName), Jvm.Cond.code ({ cls := "LyndonBenchModel", name := "keepFactor", desc := "(I)I" } : Jvm.MethodName) prog_9_method_92_code (3 : Nat) (Option.some Jvm.ClassFile.FieldType.int)]
abbrev zl_7_2 : List Cond := [Jvm.Cond.methodLink "LyndonBenchLaw" (154 : Nat) ({ cls := "LyndonBenchModel", name := "keepText", desc := "()I" } : Jvm.MethodName), Jvm.Cond.instanceMethod ({ cls := "LyndonBenchModel", name := "keepText", desc := "()I" } : Jvm.MethodName), Jvm.Cond.selects "LyndonBenchModel" ({ cls := "LyndonBenchModel", name := "keepText", desc := "()I" } : Jvm.MethodName) ({ cls := "LyndonBenchModel", name := "keepText", desc := "()I" } : Jvm.MethodName), Jvm.Cond.code ({ cls := "LyndonBenchModel", name := "keepText", desc := "()I" } : Jvm.MethodName) prog_9_method_93_code (1 : Nat) (Option.some Jvm.ClassFile.FieldType.int), Jvm.Cond.methodLink "LyndonBenchLaw" (157 : Nat) ({ cls := "LyndonBenchModel", name := "removeKept", desc := "(I)I" } : Jvm.MethodName), Jvm.Cond.instanceMethod ({ cls := "LyndonBenchModel", name := "removeKept", desc := "(I)I" } : Jvm.MethodName), Jvm.Cond.selects "LyndonBenchModel" ({ cls := "LyndonBenchModel", name := "removeKept", desc := "(I)I" } : Jvm.MethodName) ({ cls := "LyndonBenchModel", name := "removeKept", desc := "(I)I" } : Jvm.MethodName), Jvm.Cond.code ({ cls := "LyndonBenchModel", name := "removeKept", desc := "(I)I" } : Jvm.MethodName) prog_9_method_94_code (2 : Nat) (Option.some Jvm.ClassFile.FieldType.int), Jvm.Cond.methodLink "LyndonBenchModel" (337 : Nat) ({ cls := "LyndonBenchModel", name := "isShelved", desc := "(I)Z" } : Jvm.MethodName), Jvm.Cond.privateMethod ({ cls := "LyndonBenchModel", name := "isShelved", desc := "(I)Z" } : Jvm.MethodName), Jvm.Cond.instanceMethod ({ cls := "LyndonBenchModel", name := "isShelved", desc := "(I)Z" } : Jvm.MethodName), Jvm.Cond.code ({ cls := "LyndonBenchModel", name := "isShelved", desc := "(I)Z" } : Jvm.MethodName) prog_9_method_7_code (2 : Nat) (Option.some Jvm.ClassFile.FieldType.boolean), Jvm.Cond.methodLink "LyndonBenchLaw" (160 : Nat) ({ cls := "LyndonBenchModel", name := "joinKept", desc := "()I" } : Jvm.MethodName), Jvm.Cond.instanceMethod ({ cls := "LyndonBenchModel", name := "joinKept", desc := "()I" } : Jvm.MethodName), Jvm.Cond.selects "LyndonBenchModel" ({ cls := "LyndonBenchModel", name := "joinKept", desc := "()I" } : Jvm.MethodName) ({ cls := "LyndonBenchModel", name := "joinKept", desc := "()I" } : Jvm.MethodName), Jvm.Cond.code ({ cls := "LyndonBenchModel", name := "joinKept", desc := "()I" } : Jvm.MethodName) prog_9_method_95_code (1 : Nat) (Option.some Jvm.ClassFile.FieldType.int)]
abbrev zl_7_3 : List Cond := [Jvm.Cond.methodLink "LyndonBenchLaw" (164 : Nat) ({ cls := "LyndonBenchModel", name := "undo", desc := "()I" } : Jvm.MethodName), Jvm.Cond.instanceMethod ({ cls := "LyndonBenchModel", name := "undo", desc := "()I" } : Jvm.MethodName), Jvm.Cond.selects "LyndonBenchModel" ({ cls := "LyndonBenchModel", name := "undo", desc := "()I" } : Jvm.MethodName) ({ cls := "LyndonBenchModel", name := "undo", desc := "()I" } : Jvm.MethodName), Jvm.Cond.code ({ cls := "LyndonBenchModel", name := "undo", desc := "()I" } : Jvm.MethodName) prog_9_method_96_code (2 : Nat) (Option.some Jvm.ClassFile.FieldType.int), Jvm.Cond.methodLink "LyndonBenchLaw" (168 : Nat) ({ cls := "LyndonBenchModel", name := "undoCount", desc := "()I" } : Jvm.MethodName), Jvm.Cond.instanceMethod ({ cls := "LyndonBenchModel", name := "undoCount", desc := "()I" } : Jvm.MethodName), Jvm.Cond.selects "LyndonBenchModel" ({ cls := "LyndonBenchModel", name := "undoCount", desc := "()I" } : Jvm.MethodName) ({ cls := "LyndonBenchModel", name := "undoCount", desc := "()I" } : Jvm.MethodName), Jvm.Cond.code ({ cls := "LyndonBenchModel", name := "undoCount", desc := "()I" } : Jvm.MethodName) prog_9_method_97_code (1 : Nat) (Option.some Jvm.ClassFile.FieldType.int), Jvm.Cond.methodLink "LyndonBenchLaw" (172 : Nat) ({ cls := "LyndonBenchModel", name := "saveSnapshot", desc := "()I" } : Jvm.MethodName), Jvm.Cond.instanceMethod ({ cls := "LyndonBenchModel", name := "saveSnapshot", desc := "()I" } : Jvm.MethodName), Jvm.Cond.selects "LyndonBenchModel" ({ cls := "LyndonBenchModel", name := "saveSnapshot", desc := "()I" } : Jvm.MethodName) ({ cls := "LyndonBenchModel", name := "saveSnapshot", desc := "()I" } : Jvm.MethodName), Jvm.Cond.code ({ cls := "LyndonBenchModel", name := "saveSnapshot", desc := "()I" } : Jvm.MethodName) prog_9_method_98_code (2 : Nat) (Option.some Jvm.ClassFile.FieldType.int), Jvm.Cond.methodLink "LyndonBenchLaw" (175 : Nat) ({ cls := "LyndonBenchModel", name := "restoreSnapshot", desc := "()I" } : Jvm.MethodName), Jvm.Cond.instanceMethod ({ cls := "LyndonBenchModel", name := "restoreSnapshot", desc := "()I" } : Jvm.MethodName), Jvm.Cond.selects "LyndonBenchModel" ({ cls := "LyndonBenchModel", name := "restoreSnapshot", desc := "()I" } : Jvm.MethodName) ({ cls := "LyndonBenchModel", name := "restoreSnapshot", desc := "()I" } : Jvm.MethodName), Jvm.Cond.code ({ cls := "LyndonBenchModel", name := "restoreSnapshot", desc := "()I" } : Jvm.MethodName) prog_9_method_99_code (2 : Nat) (Option.some Jvm.ClassFile.FieldType.int)]
abbrev zl_7_4 : List Cond := [Jvm.Cond.methodLink "LyndonBenchLaw" (179 : Nat) ({ cls := "LyndonBenchModel", name := "scriptErrorKind", desc := "()I" } : Jvm.MethodName), Jvm.Cond.instanceMethod ({ cls := "LyndonBenchModel", name := "scriptErrorKind", desc := "()I" } : Jvm.MethodName), Jvm.Cond.selects "LyndonBenchModel" ({ cls := "LyndonBenchModel", name := "scriptErrorKind", desc := "()I" } : Jvm.MethodName) ({ cls := "LyndonBenchModel", name := "scriptErrorKind", desc := "()I" } : Jvm.MethodName), Jvm.Cond.code ({ cls := "LyndonBenchModel", name := "scriptErrorKind", desc := "()I" } : Jvm.MethodName) prog_9_method_100_code (1 : Nat) (Option.some Jvm.ClassFile.FieldType.int), Jvm.Cond.methodLink "LyndonBenchLaw" (183 : Nat) ({ cls := "LyndonBenchModel", name := "scriptErrorOffset", desc := "()I" } : Jvm.MethodName), Jvm.Cond.instanceMethod ({ cls := "LyndonBenchModel", name := "scriptErrorOffset", desc := "()I" } : Jvm.MethodName), Jvm.Cond.selects "LyndonBenchModel" ({ cls := "LyndonBenchModel", name := "scriptErrorOffset", desc := "()I" } : Jvm.MethodName) ({ cls := "LyndonBenchModel", name := "scriptErrorOffset", desc := "()I" } : Jvm.MethodName), Jvm.Cond.code ({ cls := "LyndonBenchModel", name := "scriptErrorOffset", desc := "()I" } : Jvm.MethodName) prog_9_method_101_code (1 : Nat) (Option.some Jvm.ClassFile.FieldType.int), Jvm.Cond.methodLink "LyndonBenchLaw" (187 : Nat) ({ cls := "LyndonBenchModel", name := "letters", desc := "()I" } : Jvm.MethodName), Jvm.Cond.instanceMethod ({ cls := "LyndonBenchModel", name := "letters", desc := "()I" } : Jvm.MethodName), Jvm.Cond.selects "LyndonBenchModel" ({ cls := "LyndonBenchModel", name := "letters", desc := "()I" } : Jvm.MethodName) ({ cls := "LyndonBenchModel", name := "letters", desc := "()I" } : Jvm.MethodName), Jvm.Cond.code ({ cls := "LyndonBenchModel", name := "letters", desc := "()I" } : Jvm.MethodName) prog_9_method_103_code (1 : Nat) (Option.some Jvm.ClassFile.FieldType.int), Jvm.Cond.methodLink "LyndonBenchModel" (344 : Nat) ({ cls := "LyndonBenchModel", name := "told", desc := "(I)I" } : Jvm.MethodName), Jvm.Cond.privateMethod ({ cls := "LyndonBenchModel", name := "told", desc := "(I)I" } : Jvm.MethodName), Jvm.Cond.instanceMethod ({ cls := "LyndonBenchModel", name := "told", desc := "(I)I" } : Jvm.MethodName), Jvm.Cond.code ({ cls := "LyndonBenchModel", name := "told", desc := "(I)I" } : Jvm.MethodName) prog_9_method_102_code (2 : Nat) (Option.some Jvm.ClassFile.FieldType.int)]
abbrev zl_7_5 : List Cond := [Jvm.Cond.methodLink "LyndonBenchLaw" (191 : Nat) ({ cls := "LyndonBenchModel", name := "length", desc := "()I" } : Jvm.MethodName), Jvm.Cond.instanceMethod ({ cls := "LyndonBenchModel", name := "length", desc := "()I" } : Jvm.MethodName), Jvm.Cond.selects "LyndonBenchModel" ({ cls := "LyndonBenchModel", name := "length", desc := "()I" } : Jvm.MethodName) ({ cls := "LyndonBenchModel", name := "length", desc := "()I" } : Jvm.MethodName), Jvm.Cond.code ({ cls := "LyndonBenchModel", name := "length", desc := "()I" } : Jvm.MethodName) prog_9_method_104_code (1 : Nat) (Option.some Jvm.ClassFile.FieldType.int), Jvm.Cond.methodLink "LyndonBenchLaw" (195 : Nat) ({ cls := "LyndonBenchModel", name := "letterAt", desc := "(I)I" } : Jvm.MethodName), Jvm.Cond.instanceMethod ({ cls := "LyndonBenchModel", name := "letterAt", desc := "(I)I" } : Jvm.MethodName), Jvm.Cond.selects "LyndonBenchModel" ({ cls := "LyndonBenchModel", name := "letterAt", desc := "(I)I" } : Jvm.MethodName) ({ cls := "LyndonBenchModel", name := "letterAt", desc := "(I)I" } : Jvm.MethodName), Jvm.Cond.code ({ cls := "LyndonBenchModel", name := "letterAt", desc := "(I)I" } : Jvm.MethodName) prog_9_method_105_code (2 : Nat) (Option.some Jvm.ClassFile.FieldType.int), Jvm.Cond.methodLink "LyndonBenchLaw" (199 : Nat) ({ cls := "LyndonBenchModel", name := "compareParts", desc := "(IIII)I" } : Jvm.MethodName), Jvm.Cond.instanceMethod ({ cls := "LyndonBenchModel", name := "compareParts", desc := "(IIII)I" } : Jvm.MethodName), Jvm.Cond.selects "LyndonBenchModel" ({ cls := "LyndonBenchModel", name := "compareParts", desc := "(IIII)I" } : Jvm.MethodName) ({ cls := "LyndonBenchModel", name := "compareParts", desc := "(IIII)I" } : Jvm.MethodName), Jvm.Cond.code ({ cls := "LyndonBenchModel", name := "compareParts", desc := "(IIII)I" } : Jvm.MethodName) prog_9_method_107_code (6 : Nat) (Option.some Jvm.ClassFile.FieldType.int), Jvm.Cond.methodLink "LyndonBenchModel" (347 : Nat) ({ cls := "LyndonBenchModel", name := "isPart", desc := "(II)Z" } : Jvm.MethodName), Jvm.Cond.privateMethod ({ cls := "LyndonBenchModel", name := "isPart", desc := "(II)Z" } : Jvm.MethodName), Jvm.Cond.instanceMethod ({ cls := "LyndonBenchModel", name := "isPart", desc := "(II)Z" } : Jvm.MethodName), Jvm.Cond.code ({ cls := "LyndonBenchModel", name := "isPart", desc := "(II)Z" } : Jvm.MethodName) prog_9_method_106_code (3 : Nat) (Option.some Jvm.ClassFile.FieldType.boolean)]
abbrev zl_7_6 : List Cond := [Jvm.Cond.methodLink "LyndonBenchLaw" (203 : Nat) ({ cls := "LyndonBenchModel", name := "factorCount", desc := "()I" } : Jvm.MethodName), Jvm.Cond.instanceMethod ({ cls := "LyndonBenchModel", name := "factorCount", desc := "()I" } : Jvm.MethodName), Jvm.Cond.selects "LyndonBenchModel" ({ cls := "LyndonBenchModel", name := "factorCount", desc := "()I" } : Jvm.MethodName) ({ cls := "LyndonBenchModel", name := "factorCount", desc := "()I" } : Jvm.MethodName), Jvm.Cond.code ({ cls := "LyndonBenchModel", name := "factorCount", desc := "()I" } : Jvm.MethodName) prog_9_method_108_code (1 : Nat) (Option.some Jvm.ClassFile.FieldType.int), Jvm.Cond.methodLink "LyndonBenchLaw" (206 : Nat) ({ cls := "LyndonBenchModel", name := "factorStart", desc := "(I)I" } : Jvm.MethodName), Jvm.Cond.instanceMethod ({ cls := "LyndonBenchModel", name := "factorStart", desc := "(I)I" } : Jvm.MethodName), Jvm.Cond.selects "LyndonBenchModel" ({ cls := "LyndonBenchModel", name := "factorStart", desc := "(I)I" } : Jvm.MethodName) ({ cls := "LyndonBenchModel", name := "factorStart", desc := "(I)I" } : Jvm.MethodName), Jvm.Cond.code ({ cls := "LyndonBenchModel", name := "factorStart", desc := "(I)I" } : Jvm.MethodName) prog_9_method_110_code (2 : Nat) (Option.some Jvm.ClassFile.FieldType.int), Jvm.Cond.methodLink "LyndonBenchModel" (350 : Nat) ({ cls := "LyndonBenchModel", name := "throwsFactor", desc := "(I)Z" } : Jvm.MethodName), Jvm.Cond.privateMethod ({ cls := "LyndonBenchModel", name := "throwsFactor", desc := "(I)Z" } : Jvm.MethodName), Jvm.Cond.instanceMethod ({ cls := "LyndonBenchModel", name := "throwsFactor", desc := "(I)Z" } : Jvm.MethodName), Jvm.Cond.code ({ cls := "LyndonBenchModel", name := "throwsFactor", desc := "(I)Z" } : Jvm.MethodName) prog_9_method_109_code (2 : Nat) (Option.some Jvm.ClassFile.FieldType.boolean), Jvm.Cond.methodLink "LyndonBenchLaw" (209 : Nat) ({ cls := "LyndonBenchModel", name := "factorLength", desc := "(I)I" } : Jvm.MethodName), Jvm.Cond.instanceMethod ({ cls := "LyndonBenchModel", name := "factorLength", desc := "(I)I" } : Jvm.MethodName), Jvm.Cond.selects "LyndonBenchModel" ({ cls := "LyndonBenchModel", name := "factorLength", desc := "(I)I" } : Jvm.MethodName) ({ cls := "LyndonBenchModel", name := "factorLength", desc := "(I)I" } : Jvm.MethodName), Jvm.Cond.code ({ cls := "LyndonBenchModel", name := "factorLength", desc := "(I)I" } : Jvm.MethodName) prog_9_method_111_code (2 : Nat) (Option.some Jvm.ClassFile.FieldType.int)]
abbrev zl_7_7 : List Cond := [Jvm.Cond.methodLink "LyndonBenchLaw" (212 : Nat) ({ cls := "LyndonBenchModel", name := "factorPower", desc := "(I)I" } : Jvm.MethodName), Jvm.Cond.instanceMethod ({ cls := "LyndonBenchModel", name := "factorPower", desc := "(I)I" } : Jvm.MethodName), Jvm.Cond.selects "LyndonBenchModel" ({ cls := "LyndonBenchModel", name := "factorPower", desc := "(I)I" } : Jvm.MethodName) ({ cls := "LyndonBenchModel", name := "factorPower", desc := "(I)I" } : Jvm.MethodName), Jvm.Cond.code ({ cls := "LyndonBenchModel", name := "factorPower", desc := "(I)I" } : Jvm.MethodName) prog_9_method_114_code (3 : Nat) (Option.some Jvm.ClassFile.FieldType.int), Jvm.Cond.methodLink "LyndonBenchModel" (356 : Nat) ({ cls := "LyndonBenchModel", name := "powerOf", desc := "(II)I" } : Jvm.MethodName), Jvm.Cond.privateMethod ({ cls := "LyndonBenchModel", name := "powerOf", desc := "(II)I" } : Jvm.MethodName), Jvm.Cond.instanceMethod ({ cls := "LyndonBenchModel", name := "powerOf", desc := "(II)I" } : Jvm.MethodName), Jvm.Cond.code ({ cls := "LyndonBenchModel", name := "powerOf", desc := "(II)I" } : Jvm.MethodName) prog_9_method_113_code (5 : Nat) (Option.some Jvm.ClassFile.FieldType.int), Jvm.Cond.methodLink "LyndonBenchModel" (353 : Nat) ({ cls := "LyndonBenchModel", name := "areAlike", desc := "(II)Z" } : Jvm.MethodName), Jvm.Cond.privateMethod ({ cls := "LyndonBenchModel", name := "areAlike", desc := "(II)Z" } : Jvm.MethodName), Jvm.Cond.instanceMethod ({ cls := "LyndonBenchModel", name := "areAlike", desc := "(II)Z" } : Jvm.MethodName), Jvm.Cond.code ({ cls := "LyndonBenchModel", name := "areAlike", desc := "(II)Z" } : Jvm.MethodName) prog_9_method_112_code (3 : Nat) (Option.some Jvm.ClassFile.FieldType.boolean), Jvm.Cond.methodLink "LyndonBenchLaw" (216 : Nat) ({ cls := "LyndonBenchModel", name := "factorOf", desc := "(I)I" } : Jvm.MethodName), Jvm.Cond.instanceMethod ({ cls := "LyndonBenchModel", name := "factorOf", desc := "(I)I" } : Jvm.MethodName), Jvm.Cond.selects "LyndonBenchModel" ({ cls := "LyndonBenchModel", name := "factorOf", desc := "(I)I" } : Jvm.MethodName) ({ cls := "LyndonBenchModel", name := "factorOf", desc := "(I)I" } : Jvm.MethodName), Jvm.Cond.code ({ cls := "LyndonBenchModel", name := "factorOf", desc := "(I)I" } : Jvm.MethodName) prog_9_method_115_code (4 : Nat) (Option.some Jvm.ClassFile.FieldType.int)]
abbrev zl_7_8 : List Cond := [Jvm.Cond.methodLink "LyndonBenchLaw" (220 : Nat) ({ cls := "LyndonBenchModel", name := "longestFactor", desc := "()I" } : Jvm.MethodName), Jvm.Cond.instanceMethod ({ cls := "LyndonBenchModel", name := "longestFactor", desc := "()I" } : Jvm.MethodName), Jvm.Cond.selects "LyndonBenchModel" ({ cls := "LyndonBenchModel", name := "longestFactor", desc := "()I" } : Jvm.MethodName) ({ cls := "LyndonBenchModel", name := "longestFactor", desc := "()I" } : Jvm.MethodName), Jvm.Cond.code ({ cls := "LyndonBenchModel", name := "longestFactor", desc := "()I" } : Jvm.MethodName) prog_9_method_116_code (4 : Nat) (Option.some Jvm.ClassFile.FieldType.int), Jvm.Cond.methodLink "LyndonBenchLaw" (223 : Nat) ({ cls := "LyndonBenchModel", name := "factorsIfAppended", desc := "(I)I" } : Jvm.MethodName), Jvm.Cond.instanceMethod ({ cls := "LyndonBenchModel", name := "factorsIfAppended", desc := "(I)I" } : Jvm.MethodName), Jvm.Cond.selects "LyndonBenchModel" ({ cls := "LyndonBenchModel", name := "factorsIfAppended", desc := "(I)I" } : Jvm.MethodName) ({ cls := "LyndonBenchModel", name := "factorsIfAppended", desc := "(I)I" } : Jvm.MethodName), Jvm.Cond.code ({ cls := "LyndonBenchModel", name := "factorsIfAppended", desc := "(I)I" } : Jvm.MethodName) prog_9_method_117_code (2 : Nat) (Option.some Jvm.ClassFile.FieldType.int), Jvm.Cond.methodLink "LyndonBenchLaw" (226 : Nat) ({ cls := "LyndonBenchModel", name := "factorsIfRotated", desc := "(I)I" } : Jvm.MethodName), Jvm.Cond.instanceMethod ({ cls := "LyndonBenchModel", name := "factorsIfRotated", desc := "(I)I" } : Jvm.MethodName), Jvm.Cond.selects "LyndonBenchModel" ({ cls := "LyndonBenchModel", name := "factorsIfRotated", desc := "(I)I" } : Jvm.MethodName) ({ cls := "LyndonBenchModel", name := "factorsIfRotated", desc := "(I)I" } : Jvm.MethodName), Jvm.Cond.code ({ cls := "LyndonBenchModel", name := "factorsIfRotated", desc := "(I)I" } : Jvm.MethodName) prog_9_method_118_code (2 : Nat) (Option.some Jvm.ClassFile.FieldType.int), Jvm.Cond.methodLink "LyndonBenchLaw" (229 : Nat) ({ cls := "LyndonBenchModel", name := "rankOf", desc := "(I)I" } : Jvm.MethodName), Jvm.Cond.instanceMethod ({ cls := "LyndonBenchModel", name := "rankOf", desc := "(I)I" } : Jvm.MethodName), Jvm.Cond.selects "LyndonBenchModel" ({ cls := "LyndonBenchModel", name := "rankOf", desc := "(I)I" } : Jvm.MethodName) ({ cls := "LyndonBenchModel", name := "rankOf", desc := "(I)I" } : Jvm.MethodName), Jvm.Cond.code ({ cls := "LyndonBenchModel", name := "rankOf", desc := "(I)I" } : Jvm.MethodName) prog_9_method_120_code (6 : Nat) (Option.some Jvm.ClassFile.FieldType.int)]
abbrev zl_7_9 : List Cond := [Jvm.Cond.methodLink "LyndonBenchModel" (359 : Nat) ({ cls := "LyndonBenchModel", name := "power", desc := "(I)I" } : Jvm.MethodName), Jvm.Cond.privateMethod ({ cls := "LyndonBenchModel", name := "power", desc := "(I)I" } : Jvm.MethodName), Jvm.Cond.instanceMethod ({ cls := "LyndonBenchModel", name := "power", desc := "(I)I" } : Jvm.MethodName), Jvm.Cond.code ({ cls := "LyndonBenchModel", name := "power", desc := "(I)I" } : Jvm.MethodName) prog_9_method_25_code (4 : Nat) (Option.some Jvm.ClassFile.FieldType.int), Jvm.Cond.methodLink "LyndonBenchModel" (362 : Nat) ({ cls := "LyndonBenchModel", name := "numberOf", desc := "(II)I" } : Jvm.MethodName), Jvm.Cond.privateMethod ({ cls := "LyndonBenchModel", name := "numberOf", desc := "(II)I" } : Jvm.MethodName), Jvm.Cond.instanceMethod ({ cls := "LyndonBenchModel", name := "numberOf", desc := "(II)I" } : Jvm.MethodName), Jvm.Cond.code ({ cls := "LyndonBenchModel", name := "numberOf", desc := "(II)I" } : Jvm.MethodName) prog_9_method_119_code (5 : Nat) (Option.some Jvm.ClassFile.FieldType.int), Jvm.Cond.methodLink "LyndonBenchModel" (365 : Nat) ({ cls := "LyndonBenchModel", name := "spells", desc := "(II)V" } : Jvm.MethodName), Jvm.Cond.privateMethod ({ cls := "LyndonBenchModel", name := "spells", desc := "(II)V" } : Jvm.MethodName), Jvm.Cond.instanceMethod ({ cls := "LyndonBenchModel", name := "spells", desc := "(II)V" } : Jvm.MethodName), Jvm.Cond.code ({ cls := "LyndonBenchModel", name := "spells", desc := "(II)V" } : Jvm.MethodName) prog_9_method_26_code (5 : Nat) (Option.none : Option Jvm.ClassFile.FieldType), Jvm.Cond.methodLink "LyndonBenchLaw" (234 : Nat) ({ cls := "LyndonBenchModel", name := "isLyndon", desc := "()Z" } : Jvm.MethodName), Jvm.Cond.instanceMethod ({ cls := "LyndonBenchModel", name := "isLyndon", desc := "()Z" } : Jvm.MethodName), Jvm.Cond.selects "LyndonBenchModel" ({ cls := "LyndonBenchModel", name := "isLyndon", desc := "()Z" } : Jvm.MethodName) ({ cls := "LyndonBenchModel", name := "isLyndon", desc := "()Z" } : Jvm.MethodName), Jvm.Cond.code ({ cls := "LyndonBenchModel", name := "isLyndon", desc := "()Z" } : Jvm.MethodName) prog_9_method_121_code (1 : Nat) (Option.some Jvm.ClassFile.FieldType.boolean)]
abbrev zl_7_10 : List Cond := [Jvm.Cond.methodLink "LyndonBenchLaw" (238 : Nat) ({ cls := "LyndonBenchModel", name := "whyNotLyndon", desc := "()I" } : Jvm.MethodName), Jvm.Cond.instanceMethod ({ cls := "LyndonBenchModel", name := "whyNotLyndon", desc := "()I" } : Jvm.MethodName), Jvm.Cond.selects "LyndonBenchModel" ({ cls := "LyndonBenchModel", name := "whyNotLyndon", desc := "()I" } : Jvm.MethodName) ({ cls := "LyndonBenchModel", name := "whyNotLyndon", desc := "()I" } : Jvm.MethodName), Jvm.Cond.code ({ cls := "LyndonBenchModel", name := "whyNotLyndon", desc := "()I" } : Jvm.MethodName) prog_9_method_122_code (1 : Nat) (Option.some Jvm.ClassFile.FieldType.int), Jvm.Cond.methodLink "LyndonBenchLaw" (242 : Nat) ({ cls := "LyndonBenchModel", name := "isNecklace", desc := "()Z" } : Jvm.MethodName), Jvm.Cond.instanceMethod ({ cls := "LyndonBenchModel", name := "isNecklace", desc := "()Z" } : Jvm.MethodName), Jvm.Cond.selects "LyndonBenchModel" ({ cls := "LyndonBenchModel", name := "isNecklace", desc := "()Z" } : Jvm.MethodName) ({ cls := "LyndonBenchModel", name := "isNecklace", desc := "()Z" } : Jvm.MethodName), Jvm.Cond.code ({ cls := "LyndonBenchModel", name := "isNecklace", desc := "()Z" } : Jvm.MethodName) prog_9_method_123_code (1 : Nat) (Option.some Jvm.ClassFile.FieldType.boolean), Jvm.Cond.methodLink "LyndonBenchLaw" (246 : Nat) ({ cls := "LyndonBenchModel", name := "isPrenecklace", desc := "()Z" } : Jvm.MethodName), Jvm.Cond.instanceMethod ({ cls := "LyndonBenchModel", name := "isPrenecklace", desc := "()Z" } : Jvm.MethodName), Jvm.Cond.selects "LyndonBenchModel" ({ cls := "LyndonBenchModel", name := "isPrenecklace", desc := "()Z" } : Jvm.MethodName) ({ cls := "LyndonBenchModel", name := "isPrenecklace", desc := "()Z" } : Jvm.MethodName), Jvm.Cond.code ({ cls := "LyndonBenchModel", name := "isPrenecklace", desc := "()Z" } : Jvm.MethodName) prog_9_method_124_code (1 : Nat) (Option.some Jvm.ClassFile.FieldType.boolean), Jvm.Cond.methodLink "LyndonBenchModel" (369 : Nat) ({ cls := "LyndonBenchModel", name := "isBeginning", desc := "()Z" } : Jvm.MethodName), Jvm.Cond.privateMethod ({ cls := "LyndonBenchModel", name := "isBeginning", desc := "()Z" } : Jvm.MethodName), Jvm.Cond.instanceMethod ({ cls := "LyndonBenchModel", name := "isBeginning", desc := "()Z" } : Jvm.MethodName), Jvm.Cond.code ({ cls := "LyndonBenchModel", name := "isBeginning", desc := "()Z" } : Jvm.MethodName) prog_9_method_19_code (3 : Nat) (Option.some Jvm.ClassFile.FieldType.boolean)]
abbrev zl_7_11 : List Cond := [Jvm.Cond.methodLink "LyndonBenchLaw" (250 : Nat) ({ cls := "LyndonBenchModel", name := "keepingLetter", desc := "()I" } : Jvm.MethodName), Jvm.Cond.instanceMethod ({ cls := "LyndonBenchModel", name := "keepingLetter", desc := "()I" } : Jvm.MethodName), Jvm.Cond.selects "LyndonBenchModel" ({ cls := "LyndonBenchModel", name := "keepingLetter", desc := "()I" } : Jvm.MethodName) ({ cls := "LyndonBenchModel", name := "keepingLetter", desc := "()I" } : Jvm.MethodName), Jvm.Cond.code ({ cls := "LyndonBenchModel", name := "keepingLetter", desc := "()I" } : Jvm.MethodName) prog_9_method_125_code (2 : Nat) (Option.some Jvm.ClassFile.FieldType.int), Jvm.Cond.methodLink "LyndonBenchLaw" (254 : Nat) ({ cls := "LyndonBenchModel", name := "leastRotation", desc := "()I" } : Jvm.MethodName), Jvm.Cond.instanceMethod ({ cls := "LyndonBenchModel", name := "leastRotation", desc := "()I" } : Jvm.MethodName), Jvm.Cond.selects "LyndonBenchModel" ({ cls := "LyndonBenchModel", name := "leastRotation", desc := "()I" } : Jvm.MethodName) ({ cls := "LyndonBenchModel", name := "leastRotation", desc := "()I" } : Jvm.MethodName), Jvm.Cond.code ({ cls := "LyndonBenchModel", name := "leastRotation", desc := "()I" } : Jvm.MethodName) prog_9_method_126_code (1 : Nat) (Option.some Jvm.ClassFile.FieldType.int), Jvm.Cond.methodLink "LyndonBenchLaw" (258 : Nat) ({ cls := "LyndonBenchModel", name := "rotationCount", desc := "()I" } : Jvm.MethodName), Jvm.Cond.instanceMethod ({ cls := "LyndonBenchModel", name := "rotationCount", desc := "()I" } : Jvm.MethodName), Jvm.Cond.selects "LyndonBenchModel" ({ cls := "LyndonBenchModel", name := "rotationCount", desc := "()I" } : Jvm.MethodName) ({ cls := "LyndonBenchModel", name := "rotationCount", desc := "()I" } : Jvm.MethodName), Jvm.Cond.code ({ cls := "LyndonBenchModel", name := "rotationCount", desc := "()I" } : Jvm.MethodName) prog_9_method_127_code (1 : Nat) (Option.some Jvm.ClassFile.FieldType.int), Jvm.Cond.methodLink "LyndonBenchModel" (372 : Nat) ({ cls := "LyndonBenchModel", name := "rootLength", desc := "()I" } : Jvm.MethodName), Jvm.Cond.privateMethod ({ cls := "LyndonBenchModel", name := "rootLength", desc := "()I" } : Jvm.MethodName), Jvm.Cond.instanceMethod ({ cls := "LyndonBenchModel", name := "rootLength", desc := "()I" } : Jvm.MethodName), Jvm.Cond.code ({ cls := "LyndonBenchModel", name := "rootLength", desc := "()I" } : Jvm.MethodName) prog_9_method_27_code (2 : Nat) (Option.some Jvm.ClassFile.FieldType.int)]
abbrev zl_7_12 : List Cond := [Jvm.Cond.methodLink "LyndonBenchLaw" (262 : Nat) ({ cls := "LyndonBenchModel", name := "smallestPeriod", desc := "()I" } : Jvm.MethodName), Jvm.Cond.instanceMethod ({ cls := "LyndonBenchModel", name := "smallestPeriod", desc := "()I" } : Jvm.MethodName), Jvm.Cond.selects "LyndonBenchModel" ({ cls := "LyndonBenchModel", name := "smallestPeriod", desc := "()I" } : Jvm.MethodName) ({ cls := "LyndonBenchModel", name := "smallestPeriod", desc := "()I" } : Jvm.MethodName), Jvm.Cond.code ({ cls := "LyndonBenchModel", name := "smallestPeriod", desc := "()I" } : Jvm.MethodName) prog_9_method_128_code (1 : Nat) (Option.some Jvm.ClassFile.FieldType.int), Jvm.Cond.methodLink "LyndonBenchModel" (375 : Nat) ({ cls := "LyndonBenchModel", name := "period", desc := "()I" } : Jvm.MethodName), Jvm.Cond.privateMethod ({ cls := "LyndonBenchModel", name := "period", desc := "()I" } : Jvm.MethodName), Jvm.Cond.instanceMethod ({ cls := "LyndonBenchModel", name := "period", desc := "()I" } : Jvm.MethodName), Jvm.Cond.code ({ cls := "LyndonBenchModel", name := "period", desc := "()I" } : Jvm.MethodName) prog_9_method_21_code (3 : Nat) (Option.some Jvm.ClassFile.FieldType.int), Jvm.Cond.methodLink "LyndonBenchLaw" (266 : Nat) ({ cls := "LyndonBenchModel", name := "longestBorder", desc := "()I" } : Jvm.MethodName), Jvm.Cond.instanceMethod ({ cls := "LyndonBenchModel", name := "longestBorder", desc := "()I" } : Jvm.MethodName), Jvm.Cond.selects "LyndonBenchModel" ({ cls := "LyndonBenchModel", name := "longestBorder", desc := "()I" } : Jvm.MethodName) ({ cls := "LyndonBenchModel", name := "longestBorder", desc := "()I" } : Jvm.MethodName), Jvm.Cond.code ({ cls := "LyndonBenchModel", name := "longestBorder", desc := "()I" } : Jvm.MethodName) prog_9_method_129_code (1 : Nat) (Option.some Jvm.ClassFile.FieldType.int), Jvm.Cond.methodLink "LyndonBenchLaw" (270 : Nat) ({ cls := "LyndonBenchModel", name := "leastSuffix", desc := "()I" } : Jvm.MethodName), Jvm.Cond.instanceMethod ({ cls := "LyndonBenchModel", name := "leastSuffix", desc := "()I" } : Jvm.MethodName), Jvm.Cond.selects "LyndonBenchModel" ({ cls := "LyndonBenchModel", name := "leastSuffix", desc := "()I" } : Jvm.MethodName) ({ cls := "LyndonBenchModel", name := "leastSuffix", desc := "()I" } : Jvm.MethodName), Jvm.Cond.code ({ cls := "LyndonBenchModel", name := "leastSuffix", desc := "()I" } : Jvm.MethodName) prog_9_method_130_code (1 : Nat) (Option.some Jvm.ClassFile.FieldType.int)]
abbrev zl_7_13 : List Cond := [Jvm.Cond.methodLink "LyndonBenchModel" (378 : Nat) ({ cls := "LyndonBenchModel", name := "suffix", desc := "(I)I" } : Jvm.MethodName), Jvm.Cond.privateMethod ({ cls := "LyndonBenchModel", name := "suffix", desc := "(I)I" } : Jvm.MethodName), Jvm.Cond.instanceMethod ({ cls := "LyndonBenchModel", name := "suffix", desc := "(I)I" } : Jvm.MethodName), Jvm.Cond.code ({ cls := "LyndonBenchModel", name := "suffix", desc := "(I)I" } : Jvm.MethodName) prog_9_method_24_code (4 : Nat) (Option.some Jvm.ClassFile.FieldType.int), Jvm.Cond.methodLink "LyndonBenchLaw" (274 : Nat) ({ cls := "LyndonBenchModel", name := "greatestSuffix", desc := "()I" } : Jvm.MethodName), Jvm.Cond.instanceMethod ({ cls := "LyndonBenchModel", name := "greatestSuffix", desc := "()I" } : Jvm.MethodName), Jvm.Cond.selects "LyndonBenchModel" ({ cls := "LyndonBenchModel", name := "greatestSuffix", desc := "()I" } : Jvm.MethodName) ({ cls := "LyndonBenchModel", name := "greatestSuffix", desc := "()I" } : Jvm.MethodName), Jvm.Cond.code ({ cls := "LyndonBenchModel", name := "greatestSuffix", desc := "()I" } : Jvm.MethodName) prog_9_method_131_code (1 : Nat) (Option.some Jvm.ClassFile.FieldType.int), Jvm.Cond.methodLink "LyndonBenchLaw" (277 : Nat) ({ cls := "LyndonBenchModel", name := "lyndonWords", desc := "(I)J" } : Jvm.MethodName), Jvm.Cond.instanceMethod ({ cls := "LyndonBenchModel", name := "lyndonWords", desc := "(I)J" } : Jvm.MethodName), Jvm.Cond.selects "LyndonBenchModel" ({ cls := "LyndonBenchModel", name := "lyndonWords", desc := "(I)J" } : Jvm.MethodName) ({ cls := "LyndonBenchModel", name := "lyndonWords", desc := "(I)J" } : Jvm.MethodName), Jvm.Cond.code ({ cls := "LyndonBenchModel", name := "lyndonWords", desc := "(I)J" } : Jvm.MethodName) prog_9_method_132_code (2 : Nat) (Option.some Jvm.ClassFile.FieldType.long), Jvm.Cond.methodLink "LyndonBenchModel" (94 : Nat) ({ cls := "LyndonBenchModel", name := "primitives", desc := "(I)J" } : Jvm.MethodName), Jvm.Cond.privateMethod ({ cls := "LyndonBenchModel", name := "primitives", desc := "(I)J" } : Jvm.MethodName), Jvm.Cond.instanceMethod ({ cls := "LyndonBenchModel", name := "primitives", desc := "(I)J" } : Jvm.MethodName), Jvm.Cond.code ({ cls := "LyndonBenchModel", name := "primitives", desc := "(I)J" } : Jvm.MethodName) prog_9_method_28_code (5 : Nat) (Option.some Jvm.ClassFile.FieldType.long)]
abbrev zl_7_14 : List Cond := [Jvm.Cond.methodLink "LyndonBenchLaw" (280 : Nat) ({ cls := "LyndonBenchModel", name := "necklaces", desc := "(I)J" } : Jvm.MethodName), Jvm.Cond.instanceMethod ({ cls := "LyndonBenchModel", name := "necklaces", desc := "(I)J" } : Jvm.MethodName), Jvm.Cond.selects "LyndonBenchModel" ({ cls := "LyndonBenchModel", name := "necklaces", desc := "(I)J" } : Jvm.MethodName) ({ cls := "LyndonBenchModel", name := "necklaces", desc := "(I)J" } : Jvm.MethodName), Jvm.Cond.code ({ cls := "LyndonBenchModel", name := "necklaces", desc := "(I)J" } : Jvm.MethodName) prog_9_method_133_code (2 : Nat) (Option.some Jvm.ClassFile.FieldType.long), Jvm.Cond.methodLink "LyndonBenchModel" (381 : Nat) ({ cls := "LyndonBenchModel", name := "rings", desc := "(I)J" } : Jvm.MethodName), Jvm.Cond.privateMethod ({ cls := "LyndonBenchModel", name := "rings", desc := "(I)J" } : Jvm.MethodName), Jvm.Cond.instanceMethod ({ cls := "LyndonBenchModel", name := "rings", desc := "(I)J" } : Jvm.MethodName), Jvm.Cond.code ({ cls := "LyndonBenchModel", name := "rings", desc := "(I)J" } : Jvm.MethodName) prog_9_method_29_code (5 : Nat) (Option.some Jvm.ClassFile.FieldType.long), Jvm.Cond.methodLink "LyndonBenchLaw" (283 : Nat) ({ cls := "LyndonBenchModel", name := "bruijnLetter", desc := "(II)I" } : Jvm.MethodName), Jvm.Cond.instanceMethod ({ cls := "LyndonBenchModel", name := "bruijnLetter", desc := "(II)I" } : Jvm.MethodName), Jvm.Cond.selects "LyndonBenchModel" ({ cls := "LyndonBenchModel", name := "bruijnLetter", desc := "(II)I" } : Jvm.MethodName) ({ cls := "LyndonBenchModel", name := "bruijnLetter", desc := "(II)I" } : Jvm.MethodName), Jvm.Cond.code ({ cls := "LyndonBenchModel", name := "bruijnLetter", desc := "(II)I" } : Jvm.MethodName) prog_9_method_134_code (7 : Nat) (Option.some Jvm.ClassFile.FieldType.int), Jvm.Cond.methodLink "LyndonBenchLaw" (287 : Nat) ({ cls := "LyndonBenchModel", name := "keptCount", desc := "()I" } : Jvm.MethodName), Jvm.Cond.instanceMethod ({ cls := "LyndonBenchModel", name := "keptCount", desc := "()I" } : Jvm.MethodName), Jvm.Cond.selects "LyndonBenchModel" ({ cls := "LyndonBenchModel", name := "keptCount", desc := "()I" } : Jvm.MethodName) ({ cls := "LyndonBenchModel", name := "keptCount", desc := "()I" } : Jvm.MethodName), Jvm.Cond.code ({ cls := "LyndonBenchModel", name := "keptCount", desc := "()I" } : Jvm.MethodName) prog_9_method_135_code (1 : Nat) (Option.some Jvm.ClassFile.FieldType.int)]
set_option maxRecDepth 100000 in
theorem ztq_7 : tables_1_7 = zl_7_0 ++ (zl_7_1 ++ (zl_7_2 ++ (zl_7_3 ++ (zl_7_4 ++ (zl_7_5 ++ (zl_7_6 ++ (zl_7_7 ++ (zl_7_8 ++ (zl_7_9 ++ (zl_7_10 ++ (zl_7_11 ++ (zl_7_12 ++ (zl_7_13 ++ (zl_7_14)))))))))))))) := rfl
theorem zls_7_0 : ∀ w ∈ zl_7_0, w ∈ tables_1_7 := fun w hw => by
  rw [ztq_7]
  exact List.mem_append_left _ hw
def zlt_7_0 := zu_16 zls_7_0
theorem zls_7_1 : ∀ w ∈ zl_7_1, w ∈ tables_1_7 := fun w hw => by
  rw [ztq_7]
  exact List.mem_append_right _ (List.mem_append_left _ hw)
def zlt_7_1 := zu_16 zls_7_1
theorem zls_7_2 : ∀ w ∈ zl_7_2, w ∈ tables_1_7 := fun w hw => by
  rw [ztq_7]
  exact List.mem_append_right _ (List.mem_append_right _ (List.mem_append_left _ hw))
def zlt_7_2 := zu_16 zls_7_2
theorem zls_7_3 : ∀ w ∈ zl_7_3, w ∈ tables_1_7 := fun w hw => by
  rw [ztq_7]
  exact List.mem_append_right _ (List.mem_append_right _ (List.mem_append_right _ (List.mem_append_left _ hw)))
def zlt_7_3 := zu_16 zls_7_3
theorem zls_7_4 : ∀ w ∈ zl_7_4, w ∈ tables_1_7 := fun w hw => by
  rw [ztq_7]
  exact List.mem_append_right _ (List.mem_append_right _ (List.mem_append_right _ (List.mem_append_right _ (List.mem_append_left _ hw))))
def zlt_7_4 := zu_16 zls_7_4
theorem zls_7_5 : ∀ w ∈ zl_7_5, w ∈ tables_1_7 := fun w hw => by
  rw [ztq_7]
  exact List.mem_append_right _ (List.mem_append_right _ (List.mem_append_right _ (List.mem_append_right _ (List.mem_append_right _ (List.mem_append_left _ hw)))))
def zlt_7_5 := zu_16 zls_7_5
theorem zls_7_6 : ∀ w ∈ zl_7_6, w ∈ tables_1_7 := fun w hw => by
  rw [ztq_7]
  exact List.mem_append_right _ (List.mem_append_right _ (List.mem_append_right _ (List.mem_append_right _ (List.mem_append_right _ (List.mem_append_right _ (List.mem_append_left _ hw))))))
def zlt_7_6 := zu_16 zls_7_6
theorem zls_7_7 : ∀ w ∈ zl_7_7, w ∈ tables_1_7 := fun w hw => by
  rw [ztq_7]
  exact List.mem_append_right _ (List.mem_append_right _ (List.mem_append_right _ (List.mem_append_right _ (List.mem_append_right _ (List.mem_append_right _ (List.mem_append_right _ (List.mem_append_left _ hw)))))))
def zlt_7_7 := zu_16 zls_7_7
theorem zls_7_8 : ∀ w ∈ zl_7_8, w ∈ tables_1_7 := fun w hw => by
  rw [ztq_7]
  exact List.mem_append_right _ (List.mem_append_right _ (List.mem_append_right _ (List.mem_append_right _ (List.mem_append_right _ (List.mem_append_right _ (List.mem_append_right _ (List.mem_append_right _ (List.mem_append_left _ hw))))))))
def zlt_7_8 := zu_16 zls_7_8
theorem zls_7_9 : ∀ w ∈ zl_7_9, w ∈ tables_1_7 := fun w hw => by
  rw [ztq_7]
  exact List.mem_append_right _ (List.mem_append_right _ (List.mem_append_right _ (List.mem_append_right _ (List.mem_append_right _ (List.mem_append_right _ (List.mem_append_right _ (List.mem_append_right _ (List.mem_append_right _ (List.mem_append_left _ hw)))))))))
def zlt_7_9 := zu_16 zls_7_9
theorem zls_7_10 : ∀ w ∈ zl_7_10, w ∈ tables_1_7 := fun w hw => by
  rw [ztq_7]
  exact List.mem_append_right _ (List.mem_append_right _ (List.mem_append_right _ (List.mem_append_right _ (List.mem_append_right _ (List.mem_append_right _ (List.mem_append_right _ (List.mem_append_right _ (List.mem_append_right _ (List.mem_append_right _ (List.mem_append_left _ hw))))))))))
def zlt_7_10 := zu_16 zls_7_10
theorem zls_7_11 : ∀ w ∈ zl_7_11, w ∈ tables_1_7 := fun w hw => by
  rw [ztq_7]
  exact List.mem_append_right _ (List.mem_append_right _ (List.mem_append_right _ (List.mem_append_right _ (List.mem_append_right _ (List.mem_append_right _ (List.mem_append_right _ (List.mem_append_right _ (List.mem_append_right _ (List.mem_append_right _ (List.mem_append_right _ (List.mem_append_left _ hw)))))))))))
def zlt_7_11 := zu_16 zls_7_11
theorem zls_7_12 : ∀ w ∈ zl_7_12, w ∈ tables_1_7 := fun w hw => by
  rw [ztq_7]
  exact List.mem_append_right _ (List.mem_append_right _ (List.mem_append_right _ (List.mem_append_right _ (List.mem_append_right _ (List.mem_append_right _ (List.mem_append_right _ (List.mem_append_right _ (List.mem_append_right _ (List.mem_append_right _ (List.mem_append_right _ (List.mem_append_right _ (List.mem_append_left _ hw))))))))))))
def zlt_7_12 := zu_16 zls_7_12
theorem zls_7_13 : ∀ w ∈ zl_7_13, w ∈ tables_1_7 := fun w hw => by
  rw [ztq_7]
  exact List.mem_append_right _ (List.mem_append_right _ (List.mem_append_right _ (List.mem_append_right _ (List.mem_append_right _ (List.mem_append_right _ (List.mem_append_right _ (List.mem_append_right _ (List.mem_append_right _ (List.mem_append_right _ (List.mem_append_right _ (List.mem_append_right _ (List.mem_append_right _ (List.mem_append_left _ hw)))))))))))))
def zlt_7_13 := zu_16 zls_7_13
theorem zls_7_14 : ∀ w ∈ zl_7_14, w ∈ tables_1_7 := fun w hw => by
  rw [ztq_7]
  exact List.mem_append_right _ (List.mem_append_right _ (List.mem_append_right _ (List.mem_append_right _ (List.mem_append_right _ (List.mem_append_right _ (List.mem_append_right _ (List.mem_append_right _ (List.mem_append_right _ (List.mem_append_right _ (List.mem_append_right _ (List.mem_append_right _ (List.mem_append_right _ (List.mem_append_right _ (hw))))))))))))))
def zlt_7_14 := zu_16 zls_7_14
theorem z_mt8 {w : Cond} (h : w ∈ tables_1_8) (hg : goodWord w = true) : w ∈ za_Ts := List.mem_filter.mpr ⟨List.mem_append_right _ (show w ∈ tables_1 from List.mem_append_right _ (List.mem_append_right _ (List.mem_append_right _ (List.mem_append_right _ (List.mem_append_right _ (List.mem_append_right _ (List.mem_append_right _ (h)))))))), hg⟩
abbrev zl_8_0 : List Cond := [Jvm.Cond.methodLink "LyndonBenchLaw" (290 : Nat) ({ cls := "LyndonBenchModel", name := "keptLength", desc := "(I)I" } : Jvm.MethodName), Jvm.Cond.instanceMethod ({ cls := "LyndonBenchModel", name := "keptLength", desc := "(I)I" } : Jvm.MethodName), Jvm.Cond.selects "LyndonBenchModel" ({ cls := "LyndonBenchModel", name := "keptLength", desc := "(I)I" } : Jvm.MethodName) ({ cls := "LyndonBenchModel", name := "keptLength", desc := "(I)I" } : Jvm.MethodName), Jvm.Cond.code ({ cls := "LyndonBenchModel", name := "keptLength", desc := "(I)I" } : Jvm.MethodName) prog_9_method_136_code (2 : Nat) (Option.some Jvm.ClassFile.FieldType.int), Jvm.Cond.methodLink "LyndonBenchLaw" (293 : Nat) ({ cls := "LyndonBenchModel", name := "keptLetter", desc := "(II)I" } : Jvm.MethodName), Jvm.Cond.instanceMethod ({ cls := "LyndonBenchModel", name := "keptLetter", desc := "(II)I" } : Jvm.MethodName), Jvm.Cond.selects "LyndonBenchModel" ({ cls := "LyndonBenchModel", name := "keptLetter", desc := "(II)I" } : Jvm.MethodName) ({ cls := "LyndonBenchModel", name := "keptLetter", desc := "(II)I" } : Jvm.MethodName), Jvm.Cond.code ({ cls := "LyndonBenchModel", name := "keptLetter", desc := "(II)I" } : Jvm.MethodName) prog_9_method_137_code (3 : Nat) (Option.some Jvm.ClassFile.FieldType.int), Jvm.Cond.methodLink "LyndonBenchLaw" (297 : Nat) ({ cls := "LyndonBenchModel", name := "isShelfFalling", desc := "()Z" } : Jvm.MethodName), Jvm.Cond.instanceMethod ({ cls := "LyndonBenchModel", name := "isShelfFalling", desc := "()Z" } : Jvm.MethodName), Jvm.Cond.selects "LyndonBenchModel" ({ cls := "LyndonBenchModel", name := "isShelfFalling", desc := "()Z" } : Jvm.MethodName) ({ cls := "LyndonBenchModel", name := "isShelfFalling", desc := "()Z" } : Jvm.MethodName), Jvm.Cond.code ({ cls := "LyndonBenchModel", name := "isShelfFalling", desc := "()Z" } : Jvm.MethodName) prog_9_method_138_code (2 : Nat) (Option.some Jvm.ClassFile.FieldType.boolean), Jvm.Cond.methodLink "LyndonBenchLaw" (301 : Nat) ({ cls := "LyndonBenchModel", name := "greatestKept", desc := "()I" } : Jvm.MethodName), Jvm.Cond.instanceMethod ({ cls := "LyndonBenchModel", name := "greatestKept", desc := "()I" } : Jvm.MethodName), Jvm.Cond.selects "LyndonBenchModel" ({ cls := "LyndonBenchModel", name := "greatestKept", desc := "()I" } : Jvm.MethodName) ({ cls := "LyndonBenchModel", name := "greatestKept", desc := "()I" } : Jvm.MethodName), Jvm.Cond.code ({ cls := "LyndonBenchModel", name := "greatestKept", desc := "()I" } : Jvm.MethodName) prog_9_method_139_code (1 : Nat) (Option.some Jvm.ClassFile.FieldType.int)]
abbrev zl_8_1 : List Cond := [Jvm.Cond.methodLink "LyndonBenchLaw" (306 : Nat) ({ cls := "LyndonBenchModel", name := "meanFactor", desc := "()D" } : Jvm.MethodName), Jvm.Cond.instanceMethod ({ cls := "LyndonBenchModel", name := "meanFactor", desc := "()D" } : Jvm.MethodName), Jvm.Cond.selects "LyndonBenchModel" ({ cls := "LyndonBenchModel", name := "meanFactor", desc := "()D" } : Jvm.MethodName) ({ cls := "LyndonBenchModel", name := "meanFactor", desc := "()D" } : Jvm.MethodName), Jvm.Cond.code ({ cls := "LyndonBenchModel", name := "meanFactor", desc := "()D" } : Jvm.MethodName) prog_9_method_140_code (2 : Nat) (Option.some Jvm.ClassFile.FieldType.double), Jvm.Cond.methodLink "LyndonBenchLaw" (311 : Nat) ({ cls := "LyndonBenchModel", name := "lyndonShare", desc := "()F" } : Jvm.MethodName), Jvm.Cond.instanceMethod ({ cls := "LyndonBenchModel", name := "lyndonShare", desc := "()F" } : Jvm.MethodName), Jvm.Cond.selects "LyndonBenchModel" ({ cls := "LyndonBenchModel", name := "lyndonShare", desc := "()F" } : Jvm.MethodName) ({ cls := "LyndonBenchModel", name := "lyndonShare", desc := "()F" } : Jvm.MethodName), Jvm.Cond.code ({ cls := "LyndonBenchModel", name := "lyndonShare", desc := "()F" } : Jvm.MethodName) prog_9_method_141_code (1 : Nat) (Option.some Jvm.ClassFile.FieldType.float), Jvm.Cond.constantLong "LyndonBenchModel" (384 : Nat) (6 : Int64), Jvm.Cond.methodLink "LyndonBenchLaw" (315 : Nat) ({ cls := "LyndonBenchModel", name := "violations", desc := "()I" } : Jvm.MethodName), Jvm.Cond.instanceMethod ({ cls := "LyndonBenchModel", name := "violations", desc := "()I" } : Jvm.MethodName), Jvm.Cond.selects "LyndonBenchModel" ({ cls := "LyndonBenchModel", name := "violations", desc := "()I" } : Jvm.MethodName) ({ cls := "LyndonBenchModel", name := "violations", desc := "()I" } : Jvm.MethodName), Jvm.Cond.code ({ cls := "LyndonBenchModel", name := "violations", desc := "()I" } : Jvm.MethodName) prog_9_method_142_code (5 : Nat) (Option.some Jvm.ClassFile.FieldType.int), Jvm.Cond.methodLink "LyndonBenchLaw" (319 : Nat) ({ cls := "LyndonBenchModel", name := "writeFactors", desc := "()I" } : Jvm.MethodName), Jvm.Cond.instanceMethod ({ cls := "LyndonBenchModel", name := "writeFactors", desc := "()I" } : Jvm.MethodName), Jvm.Cond.selects "LyndonBenchModel" ({ cls := "LyndonBenchModel", name := "writeFactors", desc := "()I" } : Jvm.MethodName) ({ cls := "LyndonBenchModel", name := "writeFactors", desc := "()I" } : Jvm.MethodName)]
abbrev zl_8_2 : List Cond := [Jvm.Cond.code ({ cls := "LyndonBenchModel", name := "writeFactors", desc := "()I" } : Jvm.MethodName) prog_9_method_146_code (3 : Nat) (Option.some Jvm.ClassFile.FieldType.int), Jvm.Cond.methodLink "LyndonBenchModel" (395 : Nat) ({ cls := "LyndonBenchModel", name := "writeFactor", desc := "(II)V" } : Jvm.MethodName), Jvm.Cond.privateMethod ({ cls := "LyndonBenchModel", name := "writeFactor", desc := "(II)V" } : Jvm.MethodName), Jvm.Cond.instanceMethod ({ cls := "LyndonBenchModel", name := "writeFactor", desc := "(II)V" } : Jvm.MethodName), Jvm.Cond.code ({ cls := "LyndonBenchModel", name := "writeFactor", desc := "(II)V" } : Jvm.MethodName) prog_9_method_145_code (4 : Nat) (Option.none : Option Jvm.ClassFile.FieldType), Jvm.Cond.methodLink "LyndonBenchModel" (392 : Nat) ({ cls := "LyndonBenchModel", name := "write", desc := "(I)V" } : Jvm.MethodName), Jvm.Cond.privateMethod ({ cls := "LyndonBenchModel", name := "write", desc := "(I)V" } : Jvm.MethodName), Jvm.Cond.instanceMethod ({ cls := "LyndonBenchModel", name := "write", desc := "(I)V" } : Jvm.MethodName), Jvm.Cond.code ({ cls := "LyndonBenchModel", name := "write", desc := "(I)V" } : Jvm.MethodName) prog_9_method_143_code (2 : Nat) (Option.none : Option Jvm.ClassFile.FieldType), Jvm.Cond.methodLink "LyndonBenchModel" (389 : Nat) ({ cls := "LyndonBenchModel", name := "writeNumber", desc := "(I)V" } : Jvm.MethodName), Jvm.Cond.privateMethod ({ cls := "LyndonBenchModel", name := "writeNumber", desc := "(I)V" } : Jvm.MethodName), Jvm.Cond.instanceMethod ({ cls := "LyndonBenchModel", name := "writeNumber", desc := "(I)V" } : Jvm.MethodName), Jvm.Cond.code ({ cls := "LyndonBenchModel", name := "writeNumber", desc := "(I)V" } : Jvm.MethodName) prog_9_method_144_code (2 : Nat) (Option.none : Option Jvm.ClassFile.FieldType), Jvm.Cond.methodLink "LyndonBenchLaw" (323 : Nat) ({ cls := "LyndonBenchModel", name := "reportByte", desc := "(I)I" } : Jvm.MethodName), Jvm.Cond.instanceMethod ({ cls := "LyndonBenchModel", name := "reportByte", desc := "(I)I" } : Jvm.MethodName), Jvm.Cond.selects "LyndonBenchModel" ({ cls := "LyndonBenchModel", name := "reportByte", desc := "(I)I" } : Jvm.MethodName) ({ cls := "LyndonBenchModel", name := "reportByte", desc := "(I)I" } : Jvm.MethodName)]
abbrev zl_8_3 : List Cond := [Jvm.Cond.code ({ cls := "LyndonBenchModel", name := "reportByte", desc := "(I)I" } : Jvm.MethodName) prog_9_method_147_code (2 : Nat) (Option.some Jvm.ClassFile.FieldType.int), Jvm.Cond.arrayClass Jvm.ClassFile.FieldType.long, Jvm.Cond.sameMethod "java/lang/Throwable" "java/lang/Throwable" "fillInStackTrace" "(I)Ljava/lang/Throwable;", Jvm.Cond.castable "LyndonBench" "java/lang/Object", Jvm.Cond.castable "LyndonBench$State" "java/lang/Object", Jvm.Cond.castable "LyndonBench$Word" "java/lang/Object", Jvm.Cond.castable "LyndonBench$History" "java/lang/Object", Jvm.Cond.castable "LyndonBench$Script" "java/lang/Object", Jvm.Cond.castable "LyndonBenchModel" "java/lang/Object", Jvm.Cond.castable "java/lang/IllegalArgumentException" "java/lang/Object", Jvm.Cond.castable "LyndonBench$Command" "java/lang/Object", Jvm.Cond.castable "java/lang/IllegalStateException" "java/lang/Object", Jvm.Cond.castable "java/lang/IndexOutOfBoundsException" "java/lang/Object", Jvm.Cond.castable "java/util/NoSuchElementException" "java/lang/Object", Jvm.Cond.castable "java/lang/Throwable" "java/lang/Object", Jvm.Cond.castable "java/lang/String" "java/lang/Object"]
abbrev zl_8_4 : List Cond := [Jvm.Cond.fieldLink "java/lang/String" (9 : Nat) "java/lang/String" "value" "[B", Jvm.Cond.fieldLink "java/lang/String" (15 : Nat) "java/lang/String" "coder" "B", Jvm.Cond.fieldLink "LyndonBench$Command" (59 : Nat) "LyndonBench$Command" "word" "Ljava/lang/String;", Jvm.Cond.fieldLink "java/lang/Enum" (7 : Nat) "java/lang/Enum" "ordinal" "I", Jvm.Cond.laysStatic "LyndonBench$Command" "TEXT" "LLyndonBench$Command;", Jvm.Cond.laysStatic "LyndonBench$Command" "APPEND" "LLyndonBench$Command;", Jvm.Cond.laysStatic "LyndonBench$Command" "DROP" "LLyndonBench$Command;", Jvm.Cond.laysStatic "LyndonBench$Command" "PART" "LLyndonBench$Command;", Jvm.Cond.laysStatic "LyndonBench$Command" "ROTATE" "LLyndonBench$Command;", Jvm.Cond.laysStatic "LyndonBench$Command" "REVERSE" "LLyndonBench$Command;", Jvm.Cond.laysStatic "LyndonBench$Command" "LEAST" "LLyndonBench$Command;", Jvm.Cond.laysStatic "LyndonBench$Command" "NEXT" "LLyndonBench$Command;", Jvm.Cond.laysStatic "LyndonBench$Command" "KEEP" "LLyndonBench$Command;", Jvm.Cond.laysStatic "LyndonBench$Command" "REMOVE" "LLyndonBench$Command;", Jvm.Cond.laysStatic "LyndonBench$Command" "JOIN" "LLyndonBench$Command;", Jvm.Cond.stringRef "LyndonBench$Command" (109 : Nat) "repeat"]
abbrev zl_8_5 : List Cond := [Jvm.Cond.stringRef "LyndonBench$Command" (73 : Nat) "text", Jvm.Cond.stringRef "LyndonBench$Command" (79 : Nat) "append", Jvm.Cond.stringRef "LyndonBench$Command" (82 : Nat) "drop", Jvm.Cond.stringRef "LyndonBench$Command" (85 : Nat) "part", Jvm.Cond.stringRef "LyndonBench$Command" (88 : Nat) "rotate", Jvm.Cond.stringRef "LyndonBench$Command" (91 : Nat) "reverse", Jvm.Cond.stringRef "LyndonBench$Command" (94 : Nat) "least", Jvm.Cond.stringRef "LyndonBench$Command" (97 : Nat) "next", Jvm.Cond.stringRef "LyndonBench$Command" (100 : Nat) "keep", Jvm.Cond.stringRef "LyndonBench$Command" (103 : Nat) "remove", Jvm.Cond.stringRef "LyndonBench$Command" (106 : Nat) "join"]
set_option maxRecDepth 100000 in
theorem ztq_8 : tables_1_8 = zl_8_0 ++ (zl_8_1 ++ (zl_8_2 ++ (zl_8_3 ++ (zl_8_4 ++ (zl_8_5))))) := rfl
theorem zls_8_0 : ∀ w ∈ zl_8_0, w ∈ tables_1_8 := fun w hw => by
  rw [ztq_8]
  exact List.mem_append_left _ hw
def zlt_8_0 := zu_16 zls_8_0
theorem zls_8_1 : ∀ w ∈ zl_8_1, w ∈ tables_1_8 := fun w hw => by
  rw [ztq_8]
  exact List.mem_append_right _ (List.mem_append_left _ hw)
def zlt_8_1 := zu_16 zls_8_1
theorem zls_8_2 : ∀ w ∈ zl_8_2, w ∈ tables_1_8 := fun w hw => by
  rw [ztq_8]
  exact List.mem_append_right _ (List.mem_append_right _ (List.mem_append_left _ hw))
def zlt_8_2 := zu_16 zls_8_2
theorem zls_8_3 : ∀ w ∈ zl_8_3, w ∈ tables_1_8 := fun w hw => by
  rw [ztq_8]
  exact List.mem_append_right _ (List.mem_append_right _ (List.mem_append_right _ (List.mem_append_left _ hw)))
def zlt_8_3 := zu_16 zls_8_3
theorem zls_8_4 : ∀ w ∈ zl_8_4, w ∈ tables_1_8 := fun w hw => by
  rw [ztq_8]
  exact List.mem_append_right _ (List.mem_append_right _ (List.mem_append_right _ (List.mem_append_right _ (List.mem_append_left _ hw))))
def zlt_8_4 := zu_16 zls_8_4
theorem zls_8_5 : ∀ w ∈ zl_8_5, w ∈ tables_1_8 := fun w hw => by
  rw [ztq_8]
  exact List.mem_append_right _ (List.mem_append_right _ (List.mem_append_right _ (List.mem_append_right _ (List.mem_append_right _ (hw)))))
def zlt_8_5 := zu_11 zls_8_5
theorem zw_0 : Jvm.Cond.selects "LyndonBench$Script" ({ cls := "LyndonBench$Script", name := "runHead", desc := "()Z" } : Jvm.MethodName) ({ cls := "LyndonBench$Script", name := "runHead", desc := "()Z" } : Jvm.MethodName) ∈ za_Ts := z_mem 0 (by decide +kernel) rfl
theorem zw_1 : Jvm.Cond.selects "LyndonBench$Script" ({ cls := "LyndonBench$Script", name := "readToken", desc := "()V" } : Jvm.MethodName) ({ cls := "LyndonBench$Script", name := "readToken", desc := "()V" } : Jvm.MethodName) ∈ za_Ts := z_mem 1 (by decide +kernel) rfl
theorem zw_2 : Jvm.Cond.selects "LyndonBench$Script" ({ cls := "LyndonBench$Script", name := "readNumber", desc := "()V" } : Jvm.MethodName) ({ cls := "LyndonBench$Script", name := "readNumber", desc := "()V" } : Jvm.MethodName) ∈ za_Ts := z_mem 2 (by decide +kernel) rfl
theorem zw_3 : Jvm.Cond.selects "LyndonBench$Script" ({ cls := "LyndonBench$Script", name := "fail", desc := "(I)Z" } : Jvm.MethodName) ({ cls := "LyndonBench$Script", name := "fail", desc := "(I)Z" } : Jvm.MethodName) ∈ za_Ts := z_mem 3 (by decide +kernel) rfl
theorem zw_4 : Jvm.Cond.selects "LyndonBench$Script" ({ cls := "LyndonBench$Script", name := "expectNumber", desc := "(II)Z" } : Jvm.MethodName) ({ cls := "LyndonBench$Script", name := "expectNumber", desc := "(II)Z" } : Jvm.MethodName) ∈ za_Ts := z_mem 4 (by decide +kernel) rfl
theorem zw_5 : Jvm.Cond.selects "LyndonBench$Script" ({ cls := "LyndonBench$Script", name := "expect", desc := "(I)Z" } : Jvm.MethodName) ({ cls := "LyndonBench$Script", name := "expect", desc := "(I)Z" } : Jvm.MethodName) ∈ za_Ts := z_mem 5 (by decide +kernel) rfl
theorem zw_6 : Jvm.Cond.selects "LyndonBench$Script" ({ cls := "LyndonBench$Script", name := "endRound", desc := "()Z" } : Jvm.MethodName) ({ cls := "LyndonBench$Script", name := "endRound", desc := "()Z" } : Jvm.MethodName) ∈ za_Ts := z_mem 6 (by decide +kernel) rfl
theorem zw_7 : Jvm.Cond.selects "LyndonBench$Script" ({ cls := "LyndonBench$Script", name := "runCommand", desc := "()Z" } : Jvm.MethodName) ({ cls := "LyndonBench$Script", name := "runCommand", desc := "()Z" } : Jvm.MethodName) ∈ za_Ts := z_mem 7 (by decide +kernel) rfl
theorem zw_8 : Jvm.Cond.selects "LyndonBench$Script" ({ cls := "LyndonBench$Script", name := "openRepeat", desc := "()Z" } : Jvm.MethodName) ({ cls := "LyndonBench$Script", name := "openRepeat", desc := "()Z" } : Jvm.MethodName) ∈ za_Ts := z_mem 8 (by decide +kernel) rfl
theorem zw_9 : Jvm.Cond.selects "LyndonBench$Script" ({ cls := "LyndonBench$Script", name := "runText", desc := "(Z)Z" } : Jvm.MethodName) ({ cls := "LyndonBench$Script", name := "runText", desc := "(Z)Z" } : Jvm.MethodName) ∈ za_Ts := z_mem 9 (by decide +kernel) rfl
theorem zw_10 : Jvm.Cond.selects "LyndonBench$Script" ({ cls := "LyndonBench$Script", name := "expectEnd", desc := "(Z)Z" } : Jvm.MethodName) ({ cls := "LyndonBench$Script", name := "expectEnd", desc := "(Z)Z" } : Jvm.MethodName) ∈ za_Ts := z_mem 10 (by decide +kernel) rfl
theorem zw_11 : Jvm.Cond.selects "LyndonBench$Script" ({ cls := "LyndonBench$Script", name := "runDrop", desc := "()Z" } : Jvm.MethodName) ({ cls := "LyndonBench$Script", name := "runDrop", desc := "()Z" } : Jvm.MethodName) ∈ za_Ts := z_mem 11 (by decide +kernel) rfl
theorem zw_12 : Jvm.Cond.selects "LyndonBench$Script" ({ cls := "LyndonBench$Script", name := "runPart", desc := "()Z" } : Jvm.MethodName) ({ cls := "LyndonBench$Script", name := "runPart", desc := "()Z" } : Jvm.MethodName) ∈ za_Ts := z_mem 12 (by decide +kernel) rfl
theorem zw_13 : Jvm.Cond.selects "LyndonBench$Word" ({ cls := "LyndonBench$Word", name := "put", desc := "(II)V" } : Jvm.MethodName) ({ cls := "LyndonBench$Word", name := "put", desc := "(II)V" } : Jvm.MethodName) ∈ za_Ts := z_mem 13 (by decide +kernel) rfl
theorem zw_14 : Jvm.Cond.selects "LyndonBench$Script" ({ cls := "LyndonBench$Script", name := "runRotate", desc := "()Z" } : Jvm.MethodName) ({ cls := "LyndonBench$Script", name := "runRotate", desc := "()Z" } : Jvm.MethodName) ∈ za_Ts := z_mem 14 (by decide +kernel) rfl
theorem zw_15 : Jvm.Cond.selects "LyndonBench$Script" ({ cls := "LyndonBench$Script", name := "runReverse", desc := "()Z" } : Jvm.MethodName) ({ cls := "LyndonBench$Script", name := "runReverse", desc := "()Z" } : Jvm.MethodName) ∈ za_Ts := z_mem 15 (by decide +kernel) rfl
theorem zw_16 : Jvm.Cond.selects "LyndonBench$Script" ({ cls := "LyndonBench$Script", name := "runLeast", desc := "()Z" } : Jvm.MethodName) ({ cls := "LyndonBench$Script", name := "runLeast", desc := "()Z" } : Jvm.MethodName) ∈ za_Ts := z_mem 16 (by decide +kernel) rfl
theorem zw_17 : Jvm.Cond.selects "LyndonBench$Word" ({ cls := "LyndonBench$Word", name := "atAround", desc := "(I)I" } : Jvm.MethodName) ({ cls := "LyndonBench$Word", name := "atAround", desc := "(I)I" } : Jvm.MethodName) ∈ za_Ts := z_mem 17 (by decide +kernel) rfl
theorem zw_18 : Jvm.Cond.selects "LyndonBench$Script" ({ cls := "LyndonBench$Script", name := "runNext", desc := "()Z" } : Jvm.MethodName) ({ cls := "LyndonBench$Script", name := "runNext", desc := "()Z" } : Jvm.MethodName) ∈ za_Ts := z_mem 18 (by decide +kernel) rfl
theorem zw_19 : Jvm.Cond.selects "LyndonBench$Script" ({ cls := "LyndonBench$Script", name := "runKeep", desc := "()Z" } : Jvm.MethodName) ({ cls := "LyndonBench$Script", name := "runKeep", desc := "()Z" } : Jvm.MethodName) ∈ za_Ts := z_mem 19 (by decide +kernel) rfl
theorem zw_20 : Jvm.Cond.selects "LyndonBench$Script" ({ cls := "LyndonBench$Script", name := "runRemove", desc := "()Z" } : Jvm.MethodName) ({ cls := "LyndonBench$Script", name := "runRemove", desc := "()Z" } : Jvm.MethodName) ∈ za_Ts := z_mem 20 (by decide +kernel) rfl
theorem zw_21 : Jvm.Cond.selects "LyndonBench$Script" ({ cls := "LyndonBench$Script", name := "runJoin", desc := "()Z" } : Jvm.MethodName) ({ cls := "LyndonBench$Script", name := "runJoin", desc := "()Z" } : Jvm.MethodName) ∈ za_Ts := z_mem 21 (by decide +kernel) rfl
theorem zw_22 : Jvm.Cond.selects "LyndonBench$History" ({ cls := "LyndonBench$History", name := "forgetOldest", desc := "()V" } : Jvm.MethodName) ({ cls := "LyndonBench$History", name := "forgetOldest", desc := "()V" } : Jvm.MethodName) ∈ za_Ts := z_mem 22 (by decide +kernel) rfl
theorem zw_23 : Jvm.Cond.selects "LyndonBench$Word" ({ cls := "LyndonBench$Word", name := "hasPeriod", desc := "(I)Z" } : Jvm.MethodName) ({ cls := "LyndonBench$Word", name := "hasPeriod", desc := "(I)Z" } : Jvm.MethodName) ∈ za_Ts := z_mem 23 (by decide +kernel) rfl
theorem zw_25 : Jvm.Cond.selects "LyndonBench" ({ cls := "LyndonBench", name := "checkLetter", desc := "(I)V" } : Jvm.MethodName) ({ cls := "LyndonBench", name := "checkLetter", desc := "(I)V" } : Jvm.MethodName) ∈ za_Ts := z_mem 25 (by decide +kernel) rfl
theorem zw_26 : Jvm.Cond.selects "LyndonBench" ({ cls := "LyndonBench", name := "checkCount", desc := "(I)V" } : Jvm.MethodName) ({ cls := "LyndonBench", name := "checkCount", desc := "(I)V" } : Jvm.MethodName) ∈ za_Ts := z_mem 26 (by decide +kernel) rfl
theorem zw_27 : Jvm.Cond.selects "LyndonBench" ({ cls := "LyndonBench", name := "checkPart", desc := "(II)V" } : Jvm.MethodName) ({ cls := "LyndonBench", name := "checkPart", desc := "(II)V" } : Jvm.MethodName) ∈ za_Ts := z_mem 27 (by decide +kernel) rfl
theorem zw_28 : Jvm.Cond.selects "LyndonBench" ({ cls := "LyndonBench", name := "checkedBegin", desc := "(I)I" } : Jvm.MethodName) ({ cls := "LyndonBench", name := "checkedBegin", desc := "(I)I" } : Jvm.MethodName) ∈ za_Ts := z_mem 28 (by decide +kernel) rfl
theorem zw_29 : Jvm.Cond.selects "LyndonBench" ({ cls := "LyndonBench", name := "countSmaller", desc := "(II)I" } : Jvm.MethodName) ({ cls := "LyndonBench", name := "countSmaller", desc := "(II)I" } : Jvm.MethodName) ∈ za_Ts := z_mem 29 (by decide +kernel) rfl
theorem zw_30 : Jvm.Cond.selects "LyndonBench" ({ cls := "LyndonBench", name := "startListing", desc := "()V" } : Jvm.MethodName) ({ cls := "LyndonBench", name := "startListing", desc := "()V" } : Jvm.MethodName) ∈ za_Ts := z_mem 30 (by decide +kernel) rfl
theorem zw_31 : Jvm.Cond.selects "LyndonBench" ({ cls := "LyndonBench", name := "checkCountedLength", desc := "(I)V" } : Jvm.MethodName) ({ cls := "LyndonBench", name := "checkCountedLength", desc := "(I)V" } : Jvm.MethodName) ∈ za_Ts := z_mem 31 (by decide +kernel) rfl
theorem zw_32 : Jvm.Cond.selects "LyndonBench" ({ cls := "LyndonBench", name := "findRowLetter", desc := "(II)I" } : Jvm.MethodName) ({ cls := "LyndonBench", name := "findRowLetter", desc := "(II)I" } : Jvm.MethodName) ∈ za_Ts := z_mem 32 (by decide +kernel) rfl
theorem zw_33 : Jvm.Cond.selects "LyndonBenchModel" ({ cls := "LyndonBenchModel", name := "tell", desc := "(Ljava/lang/String;)V" } : Jvm.MethodName) ({ cls := "LyndonBenchModel", name := "tell", desc := "(Ljava/lang/String;)V" } : Jvm.MethodName) ∈ za_Ts := z_mem 33 (by decide +kernel) rfl
theorem zw_34 : Jvm.Cond.selects "LyndonBenchModel" ({ cls := "LyndonBenchModel", name := "parses", desc := "()Z" } : Jvm.MethodName) ({ cls := "LyndonBenchModel", name := "parses", desc := "()Z" } : Jvm.MethodName) ∈ za_Ts := z_mem 34 (by decide +kernel) rfl
theorem zw_35 : Jvm.Cond.selects "LyndonBenchModel" ({ cls := "LyndonBenchModel", name := "next", desc := "()V" } : Jvm.MethodName) ({ cls := "LyndonBenchModel", name := "next", desc := "()V" } : Jvm.MethodName) ∈ za_Ts := z_mem 35 (by decide +kernel) rfl
theorem zw_36 : Jvm.Cond.selects "LyndonBenchModel" ({ cls := "LyndonBenchModel", name := "readsAll", desc := "()Z" } : Jvm.MethodName) ({ cls := "LyndonBenchModel", name := "readsAll", desc := "()Z" } : Jvm.MethodName) ∈ za_Ts := z_mem 36 (by decide +kernel) rfl
theorem zw_37 : Jvm.Cond.selects "LyndonBenchModel" ({ cls := "LyndonBenchModel", name := "says", desc := "(Ljava/lang/String;)Z" } : Jvm.MethodName) ({ cls := "LyndonBenchModel", name := "says", desc := "(Ljava/lang/String;)Z" } : Jvm.MethodName) ∈ za_Ts := z_mem 37 (by decide +kernel) rfl
theorem zw_38 : Jvm.Cond.selects "LyndonBenchModel" ({ cls := "LyndonBenchModel", name := "fail", desc := "(I)Z" } : Jvm.MethodName) ({ cls := "LyndonBenchModel", name := "fail", desc := "(I)Z" } : Jvm.MethodName) ∈ za_Ts := z_mem 38 (by decide +kernel) rfl
theorem zw_39 : Jvm.Cond.selects "LyndonBenchModel" ({ cls := "LyndonBenchModel", name := "number", desc := "(III)Z" } : Jvm.MethodName) ({ cls := "LyndonBenchModel", name := "number", desc := "(III)Z" } : Jvm.MethodName) ∈ za_Ts := z_mem 39 (by decide +kernel) rfl
theorem zw_40 : Jvm.Cond.selects "LyndonBenchModel" ({ cls := "LyndonBenchModel", name := "is", desc := "(I)Z" } : Jvm.MethodName) ({ cls := "LyndonBenchModel", name := "is", desc := "(I)Z" } : Jvm.MethodName) ∈ za_Ts := z_mem 40 (by decide +kernel) rfl
theorem zw_41 : Jvm.Cond.selects "LyndonBenchModel" ({ cls := "LyndonBenchModel", name := "readsCommand", desc := "(I)Z" } : Jvm.MethodName) ({ cls := "LyndonBenchModel", name := "readsCommand", desc := "(I)Z" } : Jvm.MethodName) ∈ za_Ts := z_mem 41 (by decide +kernel) rfl
theorem zw_42 : Jvm.Cond.selects "LyndonBenchModel" ({ cls := "LyndonBenchModel", name := "wordAhead", desc := "()I" } : Jvm.MethodName) ({ cls := "LyndonBenchModel", name := "wordAhead", desc := "()I" } : Jvm.MethodName) ∈ za_Ts := z_mem 42 (by decide +kernel) rfl
theorem zw_43 : Jvm.Cond.selects "LyndonBenchModel" ({ cls := "LyndonBenchModel", name := "laterWord", desc := "()I" } : Jvm.MethodName) ({ cls := "LyndonBenchModel", name := "laterWord", desc := "()I" } : Jvm.MethodName) ∈ za_Ts := z_mem 43 (by decide +kernel) rfl
theorem zw_44 : Jvm.Cond.selects "LyndonBenchModel" ({ cls := "LyndonBenchModel", name := "readsRepeat", desc := "(I)Z" } : Jvm.MethodName) ({ cls := "LyndonBenchModel", name := "readsRepeat", desc := "(I)Z" } : Jvm.MethodName) ∈ za_Ts := z_mem 44 (by decide +kernel) rfl
theorem zw_45 : Jvm.Cond.selects "LyndonBenchModel" ({ cls := "LyndonBenchModel", name := "readsWord", desc := "(I)Z" } : Jvm.MethodName) ({ cls := "LyndonBenchModel", name := "readsWord", desc := "(I)Z" } : Jvm.MethodName) ∈ za_Ts := z_mem 45 (by decide +kernel) rfl
theorem zw_46 : Jvm.Cond.selects "LyndonBenchModel" ({ cls := "LyndonBenchModel", name := "readsText", desc := "()Z" } : Jvm.MethodName) ({ cls := "LyndonBenchModel", name := "readsText", desc := "()Z" } : Jvm.MethodName) ∈ za_Ts := z_mem 46 (by decide +kernel) rfl
theorem zw_47 : Jvm.Cond.selects "LyndonBenchModel" ({ cls := "LyndonBenchModel", name := "readsWordInto", desc := "(I)Z" } : Jvm.MethodName) ({ cls := "LyndonBenchModel", name := "readsWordInto", desc := "(I)Z" } : Jvm.MethodName) ∈ za_Ts := z_mem 47 (by decide +kernel) rfl
theorem zw_48 : Jvm.Cond.selects "LyndonBenchModel" ({ cls := "LyndonBenchModel", name := "isLetter", desc := "(I)Z" } : Jvm.MethodName) ({ cls := "LyndonBenchModel", name := "isLetter", desc := "(I)Z" } : Jvm.MethodName) ∈ za_Ts := z_mem 48 (by decide +kernel) rfl
theorem zw_49 : Jvm.Cond.selects "LyndonBenchModel" ({ cls := "LyndonBenchModel", name := "stops", desc := "(Z)Z" } : Jvm.MethodName) ({ cls := "LyndonBenchModel", name := "stops", desc := "(Z)Z" } : Jvm.MethodName) ∈ za_Ts := z_mem 49 (by decide +kernel) rfl
theorem zw_50 : Jvm.Cond.selects "LyndonBenchModel" ({ cls := "LyndonBenchModel", name := "takes", desc := "()I" } : Jvm.MethodName) ({ cls := "LyndonBenchModel", name := "takes", desc := "()I" } : Jvm.MethodName) ∈ za_Ts := z_mem 50 (by decide +kernel) rfl
theorem zw_51 : Jvm.Cond.selects "LyndonBenchModel" ({ cls := "LyndonBenchModel", name := "readsAppend", desc := "()Z" } : Jvm.MethodName) ({ cls := "LyndonBenchModel", name := "readsAppend", desc := "()Z" } : Jvm.MethodName) ∈ za_Ts := z_mem 51 (by decide +kernel) rfl
theorem zw_52 : Jvm.Cond.selects "LyndonBenchModel" ({ cls := "LyndonBenchModel", name := "loads", desc := "()V" } : Jvm.MethodName) ({ cls := "LyndonBenchModel", name := "loads", desc := "()V" } : Jvm.MethodName) ∈ za_Ts := z_mem 52 (by decide +kernel) rfl
theorem zw_53 : Jvm.Cond.selects "LyndonBenchModel" ({ cls := "LyndonBenchModel", name := "readsDrop", desc := "()Z" } : Jvm.MethodName) ({ cls := "LyndonBenchModel", name := "readsDrop", desc := "()Z" } : Jvm.MethodName) ∈ za_Ts := z_mem 53 (by decide +kernel) rfl
theorem zw_54 : Jvm.Cond.selects "LyndonBenchModel" ({ cls := "LyndonBenchModel", name := "drops", desc := "(I)I" } : Jvm.MethodName) ({ cls := "LyndonBenchModel", name := "drops", desc := "(I)I" } : Jvm.MethodName) ∈ za_Ts := z_mem 54 (by decide +kernel) rfl
theorem zw_55 : Jvm.Cond.selects "LyndonBenchModel" ({ cls := "LyndonBenchModel", name := "factors", desc := "()I" } : Jvm.MethodName) ({ cls := "LyndonBenchModel", name := "factors", desc := "()I" } : Jvm.MethodName) ∈ za_Ts := z_mem 55 (by decide +kernel) rfl
theorem zw_56 : Jvm.Cond.selects "LyndonBenchModel" ({ cls := "LyndonBenchModel", name := "cuts", desc := "()I" } : Jvm.MethodName) ({ cls := "LyndonBenchModel", name := "cuts", desc := "()I" } : Jvm.MethodName) ∈ za_Ts := z_mem 56 (by decide +kernel) rfl
theorem zw_57 : Jvm.Cond.selects "LyndonBenchModel" ({ cls := "LyndonBenchModel", name := "isLess", desc := "(II)Z" } : Jvm.MethodName) ({ cls := "LyndonBenchModel", name := "isLess", desc := "(II)Z" } : Jvm.MethodName) ∈ za_Ts := z_mem 57 (by decide +kernel) rfl
theorem zw_58 : Jvm.Cond.selects "LyndonBenchModel" ({ cls := "LyndonBenchModel", name := "readsPart", desc := "()Z" } : Jvm.MethodName) ({ cls := "LyndonBenchModel", name := "readsPart", desc := "()Z" } : Jvm.MethodName) ∈ za_Ts := z_mem 58 (by decide +kernel) rfl
theorem zw_59 : Jvm.Cond.selects "LyndonBenchModel" ({ cls := "LyndonBenchModel", name := "parts", desc := "(II)I" } : Jvm.MethodName) ({ cls := "LyndonBenchModel", name := "parts", desc := "(II)I" } : Jvm.MethodName) ∈ za_Ts := z_mem 59 (by decide +kernel) rfl
theorem zw_60 : Jvm.Cond.selects "LyndonBenchModel" ({ cls := "LyndonBenchModel", name := "readsRotate", desc := "()Z" } : Jvm.MethodName) ({ cls := "LyndonBenchModel", name := "readsRotate", desc := "()Z" } : Jvm.MethodName) ∈ za_Ts := z_mem 60 (by decide +kernel) rfl
theorem zw_61 : Jvm.Cond.selects "LyndonBenchModel" ({ cls := "LyndonBenchModel", name := "turns", desc := "(I)I" } : Jvm.MethodName) ({ cls := "LyndonBenchModel", name := "turns", desc := "(I)I" } : Jvm.MethodName) ∈ za_Ts := z_mem 61 (by decide +kernel) rfl
theorem zw_62 : Jvm.Cond.selects "LyndonBenchModel" ({ cls := "LyndonBenchModel", name := "loadsRotated", desc := "(I)V" } : Jvm.MethodName) ({ cls := "LyndonBenchModel", name := "loadsRotated", desc := "(I)V" } : Jvm.MethodName) ∈ za_Ts := z_mem 62 (by decide +kernel) rfl
theorem zw_63 : Jvm.Cond.selects "LyndonBenchModel" ({ cls := "LyndonBenchModel", name := "readsReverse", desc := "()Z" } : Jvm.MethodName) ({ cls := "LyndonBenchModel", name := "readsReverse", desc := "()Z" } : Jvm.MethodName) ∈ za_Ts := z_mem 63 (by decide +kernel) rfl
theorem zw_64 : Jvm.Cond.selects "LyndonBenchModel" ({ cls := "LyndonBenchModel", name := "mirrors", desc := "()I" } : Jvm.MethodName) ({ cls := "LyndonBenchModel", name := "mirrors", desc := "()I" } : Jvm.MethodName) ∈ za_Ts := z_mem 64 (by decide +kernel) rfl
theorem zw_65 : Jvm.Cond.selects "LyndonBenchModel" ({ cls := "LyndonBenchModel", name := "readsLeast", desc := "()Z" } : Jvm.MethodName) ({ cls := "LyndonBenchModel", name := "readsLeast", desc := "()Z" } : Jvm.MethodName) ∈ za_Ts := z_mem 65 (by decide +kernel) rfl
theorem zw_66 : Jvm.Cond.selects "LyndonBenchModel" ({ cls := "LyndonBenchModel", name := "turnsToLeast", desc := "()I" } : Jvm.MethodName) ({ cls := "LyndonBenchModel", name := "turnsToLeast", desc := "()I" } : Jvm.MethodName) ∈ za_Ts := z_mem 66 (by decide +kernel) rfl
theorem zw_67 : Jvm.Cond.selects "LyndonBenchModel" ({ cls := "LyndonBenchModel", name := "least", desc := "()I" } : Jvm.MethodName) ({ cls := "LyndonBenchModel", name := "least", desc := "()I" } : Jvm.MethodName) ∈ za_Ts := z_mem 67 (by decide +kernel) rfl
theorem zw_68 : Jvm.Cond.selects "LyndonBenchModel" ({ cls := "LyndonBenchModel", name := "rotations", desc := "(II)I" } : Jvm.MethodName) ({ cls := "LyndonBenchModel", name := "rotations", desc := "(II)I" } : Jvm.MethodName) ∈ za_Ts := z_mem 68 (by decide +kernel) rfl
theorem zw_69 : Jvm.Cond.selects "LyndonBenchModel" ({ cls := "LyndonBenchModel", name := "readsNext", desc := "()Z" } : Jvm.MethodName) ({ cls := "LyndonBenchModel", name := "readsNext", desc := "()Z" } : Jvm.MethodName) ∈ za_Ts := z_mem 69 (by decide +kernel) rfl
theorem zw_70 : Jvm.Cond.selects "LyndonBenchModel" ({ cls := "LyndonBenchModel", name := "hasNext", desc := "(I)Z" } : Jvm.MethodName) ({ cls := "LyndonBenchModel", name := "hasNext", desc := "(I)Z" } : Jvm.MethodName) ∈ za_Ts := z_mem 70 (by decide +kernel) rfl
theorem zw_71 : Jvm.Cond.selects "LyndonBenchModel" ({ cls := "LyndonBenchModel", name := "why", desc := "()I" } : Jvm.MethodName) ({ cls := "LyndonBenchModel", name := "why", desc := "()I" } : Jvm.MethodName) ∈ za_Ts := z_mem 71 (by decide +kernel) rfl
theorem zw_72 : Jvm.Cond.selects "LyndonBenchModel" ({ cls := "LyndonBenchModel", name := "isPrimitiveRow", desc := "()Z" } : Jvm.MethodName) ({ cls := "LyndonBenchModel", name := "isPrimitiveRow", desc := "()Z" } : Jvm.MethodName) ∈ za_Ts := z_mem 72 (by decide +kernel) rfl
theorem zw_73 : Jvm.Cond.selects "LyndonBenchModel" ({ cls := "LyndonBenchModel", name := "turned", desc := "(I)I" } : Jvm.MethodName) ({ cls := "LyndonBenchModel", name := "turned", desc := "(I)I" } : Jvm.MethodName) ∈ za_Ts := z_mem 73 (by decide +kernel) rfl
theorem zw_74 : Jvm.Cond.selects "LyndonBenchModel" ({ cls := "LyndonBenchModel", name := "isLeastRow", desc := "()Z" } : Jvm.MethodName) ({ cls := "LyndonBenchModel", name := "isLeastRow", desc := "()Z" } : Jvm.MethodName) ∈ za_Ts := z_mem 74 (by decide +kernel) rfl
theorem zw_75 : Jvm.Cond.selects "LyndonBenchModel" ({ cls := "LyndonBenchModel", name := "nexts", desc := "(I)V" } : Jvm.MethodName) ({ cls := "LyndonBenchModel", name := "nexts", desc := "(I)V" } : Jvm.MethodName) ∈ za_Ts := z_mem 75 (by decide +kernel) rfl
theorem zw_76 : Jvm.Cond.selects "LyndonBenchModel" ({ cls := "LyndonBenchModel", name := "goesOn", desc := "(I)I" } : Jvm.MethodName) ({ cls := "LyndonBenchModel", name := "goesOn", desc := "(I)I" } : Jvm.MethodName) ∈ za_Ts := z_mem 76 (by decide +kernel) rfl
theorem zw_77 : Jvm.Cond.selects "LyndonBenchModel" ({ cls := "LyndonBenchModel", name := "readsKeep", desc := "()Z" } : Jvm.MethodName) ({ cls := "LyndonBenchModel", name := "readsKeep", desc := "()Z" } : Jvm.MethodName) ∈ za_Ts := z_mem 77 (by decide +kernel) rfl
theorem zw_78 : Jvm.Cond.selects "LyndonBenchModel" ({ cls := "LyndonBenchModel", name := "canKeepText", desc := "()Z" } : Jvm.MethodName) ({ cls := "LyndonBenchModel", name := "canKeepText", desc := "()Z" } : Jvm.MethodName) ∈ za_Ts := z_mem 78 (by decide +kernel) rfl
theorem zw_79 : Jvm.Cond.selects "LyndonBenchModel" ({ cls := "LyndonBenchModel", name := "shelves", desc := "(II)I" } : Jvm.MethodName) ({ cls := "LyndonBenchModel", name := "shelves", desc := "(II)I" } : Jvm.MethodName) ∈ za_Ts := z_mem 79 (by decide +kernel) rfl
theorem zw_80 : Jvm.Cond.selects "LyndonBenchModel" ({ cls := "LyndonBenchModel", name := "canKeepFactor", desc := "(I)Z" } : Jvm.MethodName) ({ cls := "LyndonBenchModel", name := "canKeepFactor", desc := "(I)Z" } : Jvm.MethodName) ∈ za_Ts := z_mem 80 (by decide +kernel) rfl
theorem zw_81 : Jvm.Cond.selects "LyndonBenchModel" ({ cls := "LyndonBenchModel", name := "keepsFactor", desc := "(I)I" } : Jvm.MethodName) ({ cls := "LyndonBenchModel", name := "keepsFactor", desc := "(I)I" } : Jvm.MethodName) ∈ za_Ts := z_mem 81 (by decide +kernel) rfl
theorem zw_82 : Jvm.Cond.selects "LyndonBenchModel" ({ cls := "LyndonBenchModel", name := "readsRemove", desc := "()Z" } : Jvm.MethodName) ({ cls := "LyndonBenchModel", name := "readsRemove", desc := "()Z" } : Jvm.MethodName) ∈ za_Ts := z_mem 82 (by decide +kernel) rfl
theorem zw_83 : Jvm.Cond.selects "LyndonBenchModel" ({ cls := "LyndonBenchModel", name := "removes", desc := "(I)I" } : Jvm.MethodName) ({ cls := "LyndonBenchModel", name := "removes", desc := "(I)I" } : Jvm.MethodName) ∈ za_Ts := z_mem 83 (by decide +kernel) rfl
theorem zw_84 : Jvm.Cond.selects "LyndonBenchModel" ({ cls := "LyndonBenchModel", name := "readsJoin", desc := "()Z" } : Jvm.MethodName) ({ cls := "LyndonBenchModel", name := "readsJoin", desc := "()Z" } : Jvm.MethodName) ∈ za_Ts := z_mem 84 (by decide +kernel) rfl
theorem zw_85 : Jvm.Cond.selects "LyndonBenchModel" ({ cls := "LyndonBenchModel", name := "canJoin", desc := "()Z" } : Jvm.MethodName) ({ cls := "LyndonBenchModel", name := "canJoin", desc := "()Z" } : Jvm.MethodName) ∈ za_Ts := z_mem 85 (by decide +kernel) rfl
theorem zw_86 : Jvm.Cond.selects "LyndonBenchModel" ({ cls := "LyndonBenchModel", name := "shelfLength", desc := "()I" } : Jvm.MethodName) ({ cls := "LyndonBenchModel", name := "shelfLength", desc := "()I" } : Jvm.MethodName) ∈ za_Ts := z_mem 86 (by decide +kernel) rfl
theorem zw_87 : Jvm.Cond.selects "LyndonBenchModel" ({ cls := "LyndonBenchModel", name := "joins", desc := "()I" } : Jvm.MethodName) ({ cls := "LyndonBenchModel", name := "joins", desc := "()I" } : Jvm.MethodName) ∈ za_Ts := z_mem 87 (by decide +kernel) rfl
theorem zw_88 : Jvm.Cond.selects "LyndonBenchModel" ({ cls := "LyndonBenchModel", name := "greatestBeside", desc := "(I)I" } : Jvm.MethodName) ({ cls := "LyndonBenchModel", name := "greatestBeside", desc := "(I)I" } : Jvm.MethodName) ∈ za_Ts := z_mem 88 (by decide +kernel) rfl
theorem zw_89 : Jvm.Cond.selects "LyndonBenchModel" ({ cls := "LyndonBenchModel", name := "shelved", desc := "(II)I" } : Jvm.MethodName) ({ cls := "LyndonBenchModel", name := "shelved", desc := "(II)I" } : Jvm.MethodName) ∈ za_Ts := z_mem 89 (by decide +kernel) rfl
theorem zw_90 : Jvm.Cond.selects "LyndonBenchModel" ({ cls := "LyndonBenchModel", name := "compares", desc := "(IIII)I" } : Jvm.MethodName) ({ cls := "LyndonBenchModel", name := "compares", desc := "(IIII)I" } : Jvm.MethodName) ∈ za_Ts := z_mem 90 (by decide +kernel) rfl
theorem zw_91 : Jvm.Cond.selects "LyndonBenchModel" ({ cls := "LyndonBenchModel", name := "adds", desc := "(I)V" } : Jvm.MethodName) ({ cls := "LyndonBenchModel", name := "adds", desc := "(I)V" } : Jvm.MethodName) ∈ za_Ts := z_mem 91 (by decide +kernel) rfl
theorem zw_92 : Jvm.Cond.selects "LyndonBenchModel" ({ cls := "LyndonBenchModel", name := "type", desc := "(I)V" } : Jvm.MethodName) ({ cls := "LyndonBenchModel", name := "type", desc := "(I)V" } : Jvm.MethodName) ∈ za_Ts := z_mem 92 (by decide +kernel) rfl
theorem zw_93 : Jvm.Cond.selects "LyndonBenchModel" ({ cls := "LyndonBenchModel", name := "throwsOne", desc := "(Z)Z" } : Jvm.MethodName) ({ cls := "LyndonBenchModel", name := "throwsOne", desc := "(Z)Z" } : Jvm.MethodName) ∈ za_Ts := z_mem 93 (by decide +kernel) rfl
theorem zw_94 : Jvm.Cond.selects "LyndonBenchModel" ({ cls := "LyndonBenchModel", name := "begins", desc := "()V" } : Jvm.MethodName) ({ cls := "LyndonBenchModel", name := "begins", desc := "()V" } : Jvm.MethodName) ∈ za_Ts := z_mem 94 (by decide +kernel) rfl
theorem zw_95 : Jvm.Cond.selects "LyndonBenchModel" ({ cls := "LyndonBenchModel", name := "remember", desc := "(I)I" } : Jvm.MethodName) ({ cls := "LyndonBenchModel", name := "remember", desc := "(I)I" } : Jvm.MethodName) ∈ za_Ts := z_mem 95 (by decide +kernel) rfl
theorem zw_96 : Jvm.Cond.selects "LyndonBenchModel" ({ cls := "LyndonBenchModel", name := "canHave", desc := "(I)Z" } : Jvm.MethodName) ({ cls := "LyndonBenchModel", name := "canHave", desc := "(I)Z" } : Jvm.MethodName) ∈ za_Ts := z_mem 96 (by decide +kernel) rfl
theorem zw_97 : Jvm.Cond.selects "LyndonBenchModel" ({ cls := "LyndonBenchModel", name := "throwsOne", desc := "(ZZ)Z" } : Jvm.MethodName) ({ cls := "LyndonBenchModel", name := "throwsOne", desc := "(ZZ)Z" } : Jvm.MethodName) ∈ za_Ts := z_mem 97 (by decide +kernel) rfl
theorem zw_98 : Jvm.Cond.selects "LyndonBenchModel" ({ cls := "LyndonBenchModel", name := "appends", desc := "(I)I" } : Jvm.MethodName) ({ cls := "LyndonBenchModel", name := "appends", desc := "(I)I" } : Jvm.MethodName) ∈ za_Ts := z_mem 98 (by decide +kernel) rfl
theorem zw_99 : Jvm.Cond.selects "LyndonBenchModel" ({ cls := "LyndonBenchModel", name := "isShelved", desc := "(I)Z" } : Jvm.MethodName) ({ cls := "LyndonBenchModel", name := "isShelved", desc := "(I)Z" } : Jvm.MethodName) ∈ za_Ts := z_mem 99 (by decide +kernel) rfl
theorem zw_100 : Jvm.Cond.selects "LyndonBenchModel" ({ cls := "LyndonBenchModel", name := "told", desc := "(I)I" } : Jvm.MethodName) ({ cls := "LyndonBenchModel", name := "told", desc := "(I)I" } : Jvm.MethodName) ∈ za_Ts := z_mem 100 (by decide +kernel) rfl
theorem zw_101 : Jvm.Cond.selects "LyndonBenchModel" ({ cls := "LyndonBenchModel", name := "isPart", desc := "(II)Z" } : Jvm.MethodName) ({ cls := "LyndonBenchModel", name := "isPart", desc := "(II)Z" } : Jvm.MethodName) ∈ za_Ts := z_mem 101 (by decide +kernel) rfl
theorem zw_102 : Jvm.Cond.selects "LyndonBenchModel" ({ cls := "LyndonBenchModel", name := "throwsFactor", desc := "(I)Z" } : Jvm.MethodName) ({ cls := "LyndonBenchModel", name := "throwsFactor", desc := "(I)Z" } : Jvm.MethodName) ∈ za_Ts := z_mem 102 (by decide +kernel) rfl
theorem zw_103 : Jvm.Cond.selects "LyndonBenchModel" ({ cls := "LyndonBenchModel", name := "powerOf", desc := "(II)I" } : Jvm.MethodName) ({ cls := "LyndonBenchModel", name := "powerOf", desc := "(II)I" } : Jvm.MethodName) ∈ za_Ts := z_mem 103 (by decide +kernel) rfl
theorem zw_104 : Jvm.Cond.selects "LyndonBenchModel" ({ cls := "LyndonBenchModel", name := "areAlike", desc := "(II)Z" } : Jvm.MethodName) ({ cls := "LyndonBenchModel", name := "areAlike", desc := "(II)Z" } : Jvm.MethodName) ∈ za_Ts := z_mem 104 (by decide +kernel) rfl
theorem zw_105 : Jvm.Cond.selects "LyndonBenchModel" ({ cls := "LyndonBenchModel", name := "power", desc := "(I)I" } : Jvm.MethodName) ({ cls := "LyndonBenchModel", name := "power", desc := "(I)I" } : Jvm.MethodName) ∈ za_Ts := z_mem 105 (by decide +kernel) rfl
theorem zw_106 : Jvm.Cond.selects "LyndonBenchModel" ({ cls := "LyndonBenchModel", name := "numberOf", desc := "(II)I" } : Jvm.MethodName) ({ cls := "LyndonBenchModel", name := "numberOf", desc := "(II)I" } : Jvm.MethodName) ∈ za_Ts := z_mem 106 (by decide +kernel) rfl
theorem zw_107 : Jvm.Cond.selects "LyndonBenchModel" ({ cls := "LyndonBenchModel", name := "spells", desc := "(II)V" } : Jvm.MethodName) ({ cls := "LyndonBenchModel", name := "spells", desc := "(II)V" } : Jvm.MethodName) ∈ za_Ts := z_mem 107 (by decide +kernel) rfl
theorem zw_108 : Jvm.Cond.selects "LyndonBenchModel" ({ cls := "LyndonBenchModel", name := "isBeginning", desc := "()Z" } : Jvm.MethodName) ({ cls := "LyndonBenchModel", name := "isBeginning", desc := "()Z" } : Jvm.MethodName) ∈ za_Ts := z_mem 108 (by decide +kernel) rfl
theorem zw_109 : Jvm.Cond.selects "LyndonBenchModel" ({ cls := "LyndonBenchModel", name := "rootLength", desc := "()I" } : Jvm.MethodName) ({ cls := "LyndonBenchModel", name := "rootLength", desc := "()I" } : Jvm.MethodName) ∈ za_Ts := z_mem 109 (by decide +kernel) rfl
theorem zw_110 : Jvm.Cond.selects "LyndonBenchModel" ({ cls := "LyndonBenchModel", name := "period", desc := "()I" } : Jvm.MethodName) ({ cls := "LyndonBenchModel", name := "period", desc := "()I" } : Jvm.MethodName) ∈ za_Ts := z_mem 110 (by decide +kernel) rfl
theorem zw_111 : Jvm.Cond.selects "LyndonBenchModel" ({ cls := "LyndonBenchModel", name := "suffix", desc := "(I)I" } : Jvm.MethodName) ({ cls := "LyndonBenchModel", name := "suffix", desc := "(I)I" } : Jvm.MethodName) ∈ za_Ts := z_mem 111 (by decide +kernel) rfl
theorem zw_112 : Jvm.Cond.selects "LyndonBenchModel" ({ cls := "LyndonBenchModel", name := "primitives", desc := "(I)J" } : Jvm.MethodName) ({ cls := "LyndonBenchModel", name := "primitives", desc := "(I)J" } : Jvm.MethodName) ∈ za_Ts := z_mem 112 (by decide +kernel) rfl
theorem zw_113 : Jvm.Cond.selects "LyndonBenchModel" ({ cls := "LyndonBenchModel", name := "rings", desc := "(I)J" } : Jvm.MethodName) ({ cls := "LyndonBenchModel", name := "rings", desc := "(I)J" } : Jvm.MethodName) ∈ za_Ts := z_mem 113 (by decide +kernel) rfl
theorem zw_114 : Jvm.Cond.selects "LyndonBenchModel" ({ cls := "LyndonBenchModel", name := "writeFactor", desc := "(II)V" } : Jvm.MethodName) ({ cls := "LyndonBenchModel", name := "writeFactor", desc := "(II)V" } : Jvm.MethodName) ∈ za_Ts := z_mem 114 (by decide +kernel) rfl
theorem zw_115 : Jvm.Cond.selects "LyndonBenchModel" ({ cls := "LyndonBenchModel", name := "write", desc := "(I)V" } : Jvm.MethodName) ({ cls := "LyndonBenchModel", name := "write", desc := "(I)V" } : Jvm.MethodName) ∈ za_Ts := z_mem 115 (by decide +kernel) rfl
theorem zw_116 : Jvm.Cond.selects "LyndonBenchModel" ({ cls := "LyndonBenchModel", name := "writeNumber", desc := "(I)V" } : Jvm.MethodName) ({ cls := "LyndonBenchModel", name := "writeNumber", desc := "(I)V" } : Jvm.MethodName) ∈ za_Ts := z_mem 116 (by decide +kernel) rfl
def zw_117 := z_mt1 zlt_1_0.1 rfl
def zw_118 := z_mt1 zlt_1_0.2.1 rfl
def zw_119 := z_mt1 zlt_1_0.2.2.1 rfl
def zw_120 := z_mt1 zlt_1_0.2.2.2.1 rfl
def zw_121 := z_mt1 zlt_1_0.2.2.2.2.1 rfl
def zw_122 := z_mt1 zlt_1_0.2.2.2.2.2.1 rfl
def zw_123 := z_mt1 zlt_1_0.2.2.2.2.2.2.1 rfl
def zw_124 := z_mt1 zlt_1_0.2.2.2.2.2.2.2.1 rfl
def zw_125 := z_mt1 zlt_1_0.2.2.2.2.2.2.2.2.1 rfl
def zw_126 := z_mt1 zlt_1_0.2.2.2.2.2.2.2.2.2.1 rfl
def zw_128 := z_mt1 zlt_1_0.2.2.2.2.2.2.2.2.2.2.2.1 rfl
def zw_132 := z_mt1 zlt_1_0.2.2.2.2.2.2.2.2.2.2.2.2.2.2.2 rfl
def zw_133 := z_mt1 zlt_1_1.1 rfl
def zw_134 := z_mt1 zlt_1_1.2.1 rfl
def zw_136 := z_mt1 zlt_1_1.2.2.2.1 rfl
def zw_137 := z_mt1 zlt_1_1.2.2.2.2.1 rfl
def zw_138 := z_mt1 zlt_1_1.2.2.2.2.2.1 rfl
def zw_139 := z_mt1 zlt_1_1.2.2.2.2.2.2.1 rfl
def zw_140 := z_mt1 zlt_1_1.2.2.2.2.2.2.2.1 rfl
def zw_141 := z_mt1 zlt_1_1.2.2.2.2.2.2.2.2.1 rfl
def zw_142 := z_mt1 zlt_1_1.2.2.2.2.2.2.2.2.2.1 rfl
def zw_143 := z_mt1 zlt_1_1.2.2.2.2.2.2.2.2.2.2.1 rfl
def zw_144 := z_mt1 zlt_1_1.2.2.2.2.2.2.2.2.2.2.2.1 rfl
def zw_145 := z_mt1 zlt_1_1.2.2.2.2.2.2.2.2.2.2.2.2.1 rfl
def zw_146 := z_mt1 zlt_1_1.2.2.2.2.2.2.2.2.2.2.2.2.2.1 rfl
def zw_147 := z_mt1 zlt_1_1.2.2.2.2.2.2.2.2.2.2.2.2.2.2.1 rfl
def zw_148 := z_mt1 zlt_1_1.2.2.2.2.2.2.2.2.2.2.2.2.2.2.2 rfl
def zw_149 := z_mt1 zlt_1_2.1 rfl
def zw_150 := z_mt1 zlt_1_2.2.1 rfl
def zw_151 := z_mt1 zlt_1_2.2.2.1 rfl
def zw_152 := z_mt1 zlt_1_2.2.2.2.1 rfl
def zw_153 := z_mt1 zlt_1_2.2.2.2.2.1 rfl
def zw_154 := z_mt1 zlt_1_2.2.2.2.2.2.1 rfl
def zw_155 := z_mt1 zlt_1_2.2.2.2.2.2.2.1 rfl
def zw_156 := z_mt1 zlt_1_2.2.2.2.2.2.2.2.1 rfl
def zw_157 := z_mt1 zlt_1_2.2.2.2.2.2.2.2.2.1 rfl
def zw_158 := z_mt1 zlt_1_2.2.2.2.2.2.2.2.2.2.1 rfl
def zw_159 := z_mt1 zlt_1_2.2.2.2.2.2.2.2.2.2.2.1 rfl
def zw_160 := z_mt1 zlt_1_2.2.2.2.2.2.2.2.2.2.2.2.1 rfl
def zw_161 := z_mt1 zlt_1_2.2.2.2.2.2.2.2.2.2.2.2.2.1 rfl
def zw_162 := z_mt1 zlt_1_2.2.2.2.2.2.2.2.2.2.2.2.2.2.1 rfl
def zw_163 := z_mt1 zlt_1_2.2.2.2.2.2.2.2.2.2.2.2.2.2.2.1 rfl
def zw_164 := z_mt1 zlt_1_2.2.2.2.2.2.2.2.2.2.2.2.2.2.2.2 rfl
def zw_165 := z_mt1 zlt_1_3.1 rfl
def zw_166 := z_mt1 zlt_1_3.2.1 rfl
def zw_172 := z_mt1 zlt_1_3.2.2.2.2.2.2.2.1 rfl
def zw_174 := z_mt1 zlt_1_3.2.2.2.2.2.2.2.2.2.1 rfl
def zw_175 := z_mt1 zlt_1_3.2.2.2.2.2.2.2.2.2.2.1 rfl
def zw_176 := z_mt1 zlt_1_3.2.2.2.2.2.2.2.2.2.2.2.1 rfl
def zw_177 := z_mt1 zlt_1_3.2.2.2.2.2.2.2.2.2.2.2.2.1 rfl
def zw_178 := z_mt1 zlt_1_3.2.2.2.2.2.2.2.2.2.2.2.2.2.1 rfl
def zw_179 := z_mt1 zlt_1_3.2.2.2.2.2.2.2.2.2.2.2.2.2.2.1 rfl
def zw_180 := z_mt1 zlt_1_3.2.2.2.2.2.2.2.2.2.2.2.2.2.2.2 rfl
def zw_181 := z_mt1 zlt_1_4.1 rfl
def zw_182 := z_mt1 zlt_1_4.2.1 rfl
def zw_192 := z_mt1 zlt_1_4.2.2.2.2.2.2.2.2.2.2.2.1 rfl
def zw_193 := z_mt1 zlt_1_4.2.2.2.2.2.2.2.2.2.2.2.2.1 rfl
def zw_194 := z_mt1 zlt_1_4.2.2.2.2.2.2.2.2.2.2.2.2.2.1 rfl
def zw_195 := z_mt1 zlt_1_4.2.2.2.2.2.2.2.2.2.2.2.2.2.2.1 rfl
def zw_196 := z_mt1 zlt_1_4.2.2.2.2.2.2.2.2.2.2.2.2.2.2.2 rfl
def zw_197 := z_mt1 zlt_1_5.1 rfl
def zw_198 := z_mt1 zlt_1_5.2.1 rfl
def zw_200 := z_mt1 zlt_1_5.2.2.2.1 rfl
def zw_201 := z_mt1 zlt_1_5.2.2.2.2.1 rfl
def zw_202 := z_mt1 zlt_1_5.2.2.2.2.2.1 rfl
def zw_203 := z_mt1 zlt_1_5.2.2.2.2.2.2.1 rfl
def zw_209 := z_mt1 zlt_1_5.2.2.2.2.2.2.2.2.2.2.2.2.1 rfl
def zw_210 := z_mt1 zlt_1_5.2.2.2.2.2.2.2.2.2.2.2.2.2.1 rfl
def zw_212 := z_mt1 zlt_1_5.2.2.2.2.2.2.2.2.2.2.2.2.2.2.2 rfl
def zw_213 := z_mt1 zlt_1_6.1 rfl
def zw_214 := z_mt1 zlt_1_6.2.1 rfl
def zw_215 := z_mt1 zlt_1_6.2.2.1 rfl
def zw_216 := z_mt1 zlt_1_6.2.2.2.1 rfl
def zw_217 := z_mt1 zlt_1_6.2.2.2.2.1 rfl
def zw_218 := z_mt1 zlt_1_6.2.2.2.2.2.1 rfl
def zw_219 := z_mt1 zlt_1_6.2.2.2.2.2.2.1 rfl
def zw_220 := z_mt1 zlt_1_6.2.2.2.2.2.2.2.1 rfl
def zw_221 := z_mt1 zlt_1_6.2.2.2.2.2.2.2.2.1 rfl
def zw_222 := z_mt1 zlt_1_6.2.2.2.2.2.2.2.2.2.1 rfl
def zw_223 := z_mt1 zlt_1_6.2.2.2.2.2.2.2.2.2.2.1 rfl
def zw_224 := z_mt1 zlt_1_6.2.2.2.2.2.2.2.2.2.2.2.1 rfl
def zw_225 := z_mt1 zlt_1_6.2.2.2.2.2.2.2.2.2.2.2.2.1 rfl
def zw_226 := z_mt1 zlt_1_6.2.2.2.2.2.2.2.2.2.2.2.2.2.1 rfl
def zw_227 := z_mt1 zlt_1_6.2.2.2.2.2.2.2.2.2.2.2.2.2.2.1 rfl
def zw_228 := z_mt1 zlt_1_6.2.2.2.2.2.2.2.2.2.2.2.2.2.2.2 rfl
def zw_229 := z_mt1 zlt_1_7.1 rfl
def zw_230 := z_mt1 zlt_1_7.2.1 rfl
def zw_231 := z_mt1 zlt_1_7.2.2.1 rfl
def zw_232 := z_mt1 zlt_1_7.2.2.2.1 rfl
def zw_233 := z_mt1 zlt_1_7.2.2.2.2.1 rfl
def zw_234 := z_mt1 zlt_1_7.2.2.2.2.2.1 rfl
def zw_260 := z_mt1 zlt_1_8.2.2.2.2.2.2.2.2.2.2.2.2.2.2.2 rfl
def zw_261 := z_mt1 zlt_1_9.1 rfl
def zw_262 := z_mt1 zlt_1_9.2.1 rfl
def zw_263 := z_mt1 zlt_1_9.2.2.1 rfl
def zw_264 := z_mt1 zlt_1_9.2.2.2.1 rfl
def zw_265 := z_mt1 zlt_1_9.2.2.2.2.1 rfl
def zw_266 := z_mt1 zlt_1_9.2.2.2.2.2.1 rfl
def zw_267 := z_mt1 zlt_1_9.2.2.2.2.2.2.1 rfl
def zw_268 := z_mt1 zlt_1_9.2.2.2.2.2.2.2.1 rfl
def zw_269 := z_mt1 zlt_1_9.2.2.2.2.2.2.2.2.1 rfl
def zw_270 := z_mt1 zlt_1_9.2.2.2.2.2.2.2.2.2.1 rfl
def zw_272 := z_mt1 zlt_1_9.2.2.2.2.2.2.2.2.2.2.2.1 rfl
def zw_273 := z_mt1 zlt_1_9.2.2.2.2.2.2.2.2.2.2.2.2.1 rfl
def zw_274 := z_mt1 zlt_1_9.2.2.2.2.2.2.2.2.2.2.2.2.2.1 rfl
def zw_275 := z_mt1 zlt_1_9.2.2.2.2.2.2.2.2.2.2.2.2.2.2.1 rfl
def zw_276 := z_mt1 zlt_1_9.2.2.2.2.2.2.2.2.2.2.2.2.2.2.2 rfl
def zw_277 := z_mt1 zlt_1_10.1 rfl
def zw_278 := z_mt1 zlt_1_10.2.1 rfl
def zw_279 := z_mt1 zlt_1_10.2.2.1 rfl
def zw_280 := z_mt1 zlt_1_10.2.2.2.1 rfl
def zw_281 := z_mt1 zlt_1_10.2.2.2.2.1 rfl
def zw_282 := z_mt1 zlt_1_10.2.2.2.2.2.1 rfl
def zw_283 := z_mt1 zlt_1_10.2.2.2.2.2.2.1 rfl
def zw_284 := z_mt1 zlt_1_10.2.2.2.2.2.2.2.1 rfl
def zw_286 := z_mt1 zlt_1_10.2.2.2.2.2.2.2.2.2.1 rfl
def zw_287 := z_mt1 zlt_1_10.2.2.2.2.2.2.2.2.2.2.1 rfl
def zw_288 := z_mt1 zlt_1_10.2.2.2.2.2.2.2.2.2.2.2.1 rfl
def zw_289 := z_mt1 zlt_1_10.2.2.2.2.2.2.2.2.2.2.2.2.1 rfl
def zw_290 := z_mt1 zlt_1_10.2.2.2.2.2.2.2.2.2.2.2.2.2.1 rfl
def zw_291 := z_mt1 zlt_1_10.2.2.2.2.2.2.2.2.2.2.2.2.2.2.1 rfl
def zw_292 := z_mt1 zlt_1_10.2.2.2.2.2.2.2.2.2.2.2.2.2.2.2 rfl
def zw_293 := z_mt1 zlt_1_11.1 rfl
def zw_294 := z_mt1 zlt_1_11.2.1 rfl
def zw_295 := z_mt1 zlt_1_11.2.2.1 rfl
def zw_296 := z_mt1 zlt_1_11.2.2.2.1 rfl
def zw_297 := z_mt1 zlt_1_11.2.2.2.2.1 rfl
def zw_298 := z_mt1 zlt_1_11.2.2.2.2.2.1 rfl
def zw_299 := z_mt1 zlt_1_11.2.2.2.2.2.2.1 rfl
def zw_300 := z_mt1 zlt_1_11.2.2.2.2.2.2.2.1 rfl
def zw_302 := z_mt1 zlt_1_11.2.2.2.2.2.2.2.2.2.1 rfl
def zw_303 := z_mt1 zlt_1_11.2.2.2.2.2.2.2.2.2.2.1 rfl
def zw_304 := z_mt1 zlt_1_11.2.2.2.2.2.2.2.2.2.2.2.1 rfl
def zw_324 := z_mt1 zlt_1_12.2.2.2.2.2.2.2.2.2.2.2.2.2.2.2 rfl
def zw_325 := z_mt1 zlt_1_13.1 rfl
def zw_326 := z_mt1 zlt_1_13.2.1 rfl
def zw_327 := z_mt1 zlt_1_13.2.2.1 rfl
def zw_329 := z_mt1 zlt_1_13.2.2.2.2.1 rfl
def zw_330 := z_mt1 zlt_1_13.2.2.2.2.2.1 rfl
def zw_331 := z_mt1 zlt_1_13.2.2.2.2.2.2.1 rfl
def zw_332 := z_mt1 zlt_1_13.2.2.2.2.2.2.2.1 rfl
def zw_333 := z_mt1 zlt_1_13.2.2.2.2.2.2.2.2.1 rfl
def zw_334 := z_mt1 zlt_1_13.2.2.2.2.2.2.2.2.2.1 rfl
def zw_335 := z_mt1 zlt_1_13.2.2.2.2.2.2.2.2.2.2.1 rfl
def zw_336 := z_mt1 zlt_1_13.2.2.2.2.2.2.2.2.2.2.2.1 rfl
def zw_337 := z_mt1 zlt_1_13.2.2.2.2.2.2.2.2.2.2.2.2.1 rfl
def zw_338 := z_mt1 zlt_1_13.2.2.2.2.2.2.2.2.2.2.2.2.2.1 rfl
def zw_339 := z_mt1 zlt_1_13.2.2.2.2.2.2.2.2.2.2.2.2.2.2.1 rfl
def zw_340 := z_mt1 zlt_1_13.2.2.2.2.2.2.2.2.2.2.2.2.2.2.2 rfl
def zw_341 := z_mt1 zlt_1_14.1 rfl
def zw_342 := z_mt1 zlt_1_14.2.1 rfl
def zw_343 := z_mt1 zlt_1_14.2.2.1 rfl
def zw_344 := z_mt1 zlt_1_14.2.2.2.1 rfl
def zw_345 := z_mt1 zlt_1_14.2.2.2.2.1 rfl
def zw_346 := z_mt1 zlt_1_14.2.2.2.2.2.1 rfl
def zw_347 := z_mt1 zlt_1_14.2.2.2.2.2.2.1 rfl
def zw_363 := z_mt2 zlt_2_0.2.2.2.2.2.2.1 rfl
def zw_364 := z_mt2 zlt_2_0.2.2.2.2.2.2.2.1 rfl
def zw_365 := z_mt2 zlt_2_0.2.2.2.2.2.2.2.2.1 rfl
def zw_366 := z_mt2 zlt_2_0.2.2.2.2.2.2.2.2.2.1 rfl
def zw_367 := z_mt2 zlt_2_0.2.2.2.2.2.2.2.2.2.2.1 rfl
def zw_368 := z_mt2 zlt_2_0.2.2.2.2.2.2.2.2.2.2.2.1 rfl
def zw_369 := z_mt2 zlt_2_0.2.2.2.2.2.2.2.2.2.2.2.2.1 rfl
def zw_370 := z_mt2 zlt_2_0.2.2.2.2.2.2.2.2.2.2.2.2.2.1 rfl
def zw_371 := z_mt2 zlt_2_0.2.2.2.2.2.2.2.2.2.2.2.2.2.2.1 rfl
def zw_372 := z_mt2 zlt_2_0.2.2.2.2.2.2.2.2.2.2.2.2.2.2.2 rfl
def zw_373 := z_mt2 zlt_2_1.1 rfl
def zw_374 := z_mt2 zlt_2_1.2.1 rfl
def zw_375 := z_mt2 zlt_2_1.2.2.1 rfl
def zw_376 := z_mt2 zlt_2_1.2.2.2.1 rfl
def zw_377 := z_mt2 zlt_2_1.2.2.2.2.1 rfl
def zw_378 := z_mt2 zlt_2_1.2.2.2.2.2.1 rfl
def zw_379 := z_mt2 zlt_2_1.2.2.2.2.2.2.1 rfl
def zw_381 := z_mt2 zlt_2_1.2.2.2.2.2.2.2.2.1 rfl
def zw_382 := z_mt2 zlt_2_1.2.2.2.2.2.2.2.2.2.1 rfl
def zw_383 := z_mt2 zlt_2_1.2.2.2.2.2.2.2.2.2.2.1 rfl
def zw_385 := z_mt2 zlt_2_1.2.2.2.2.2.2.2.2.2.2.2.2.1 rfl
def zw_386 := z_mt2 zlt_2_1.2.2.2.2.2.2.2.2.2.2.2.2.2.1 rfl
def zw_387 := z_mt2 zlt_2_1.2.2.2.2.2.2.2.2.2.2.2.2.2.2.1 rfl
def zw_388 := z_mt2 zlt_2_1.2.2.2.2.2.2.2.2.2.2.2.2.2.2.2 rfl
def zw_389 := z_mt2 zlt_2_2.1 rfl
def zw_390 := z_mt2 zlt_2_2.2.1 rfl
def zw_391 := z_mt2 zlt_2_2.2.2.1 rfl
def zw_393 := z_mt2 zlt_2_2.2.2.2.2.1 rfl
def zw_394 := z_mt2 zlt_2_2.2.2.2.2.2.1 rfl
def zw_396 := z_mt2 zlt_2_2.2.2.2.2.2.2.2.1 rfl
def zw_397 := z_mt2 zlt_2_2.2.2.2.2.2.2.2.2.1 rfl
def zw_398 := z_mt2 zlt_2_2.2.2.2.2.2.2.2.2.2.1 rfl
def zw_399 := z_mt2 zlt_2_2.2.2.2.2.2.2.2.2.2.2.1 rfl
def zw_400 := z_mt2 zlt_2_2.2.2.2.2.2.2.2.2.2.2.2.1 rfl
def zw_402 := z_mt2 zlt_2_2.2.2.2.2.2.2.2.2.2.2.2.2.2.1 rfl
def zw_403 := z_mt2 zlt_2_2.2.2.2.2.2.2.2.2.2.2.2.2.2.2.1 rfl
def zw_404 := z_mt2 zlt_2_2.2.2.2.2.2.2.2.2.2.2.2.2.2.2.2 rfl
def zw_406 := z_mt2 zlt_2_3.2.1 rfl
def zw_407 := z_mt2 zlt_2_3.2.2.1 rfl
def zw_408 := z_mt2 zlt_2_3.2.2.2.1 rfl
def zw_410 := z_mt2 zlt_2_3.2.2.2.2.2.1 rfl
def zw_411 := z_mt2 zlt_2_3.2.2.2.2.2.2.1 rfl
def zw_412 := z_mt2 zlt_2_3.2.2.2.2.2.2.2.1 rfl
def zw_413 := z_mt2 zlt_2_3.2.2.2.2.2.2.2.2.1 rfl
def zw_414 := z_mt2 zlt_2_3.2.2.2.2.2.2.2.2.2.1 rfl
def zw_416 := z_mt2 zlt_2_3.2.2.2.2.2.2.2.2.2.2.2.1 rfl
def zw_417 := z_mt2 zlt_2_3.2.2.2.2.2.2.2.2.2.2.2.2.1 rfl
def zw_418 := z_mt2 zlt_2_3.2.2.2.2.2.2.2.2.2.2.2.2.2.1 rfl
def zw_420 := z_mt2 zlt_2_3.2.2.2.2.2.2.2.2.2.2.2.2.2.2.2 rfl
def zw_421 := z_mt2 zlt_2_4.1 rfl
def zw_422 := z_mt2 zlt_2_4.2.1 rfl
def zw_423 := z_mt2 zlt_2_4.2.2.1 rfl
def zw_424 := z_mt2 zlt_2_4.2.2.2.1 rfl
def zw_425 := z_mt2 zlt_2_4.2.2.2.2.1 rfl
def zw_427 := z_mt2 zlt_2_4.2.2.2.2.2.2.1 rfl
def zw_428 := z_mt2 zlt_2_4.2.2.2.2.2.2.2.1 rfl
def zw_430 := z_mt2 zlt_2_4.2.2.2.2.2.2.2.2.2.1 rfl
def zw_432 := z_mt2 zlt_2_4.2.2.2.2.2.2.2.2.2.2.2.1 rfl
def zw_433 := z_mt2 zlt_2_4.2.2.2.2.2.2.2.2.2.2.2.2.1 rfl
def zw_434 := z_mt2 zlt_2_4.2.2.2.2.2.2.2.2.2.2.2.2.2.1 rfl
def zw_436 := z_mt2 zlt_2_4.2.2.2.2.2.2.2.2.2.2.2.2.2.2.2 rfl
def zw_437 := z_mt2 zlt_2_5.1 rfl
def zw_439 := z_mt2 zlt_2_5.2.2.1 rfl
def zw_440 := z_mt2 zlt_2_5.2.2.2.1 rfl
def zw_441 := z_mt2 zlt_2_5.2.2.2.2.1 rfl
def zw_442 := z_mt2 zlt_2_5.2.2.2.2.2.1 rfl
def zw_444 := z_mt2 zlt_2_5.2.2.2.2.2.2.2.1 rfl
def zw_445 := z_mt2 zlt_2_5.2.2.2.2.2.2.2.2.1 rfl
def zw_446 := z_mt2 zlt_2_5.2.2.2.2.2.2.2.2.2.1 rfl
def zw_447 := z_mt2 zlt_2_5.2.2.2.2.2.2.2.2.2.2.1 rfl
def zw_448 := z_mt2 zlt_2_5.2.2.2.2.2.2.2.2.2.2.2.1 rfl
def zw_449 := z_mt2 zlt_2_5.2.2.2.2.2.2.2.2.2.2.2.2.1 rfl
def zw_450 := z_mt2 zlt_2_5.2.2.2.2.2.2.2.2.2.2.2.2.2.1 rfl
def zw_452 := z_mt2 zlt_2_5.2.2.2.2.2.2.2.2.2.2.2.2.2.2.2 rfl
def zw_453 := z_mt2 zlt_2_6.1 rfl
def zw_454 := z_mt2 zlt_2_6.2.1 rfl
def zw_455 := z_mt2 zlt_2_6.2.2.1 rfl
def zw_456 := z_mt2 zlt_2_6.2.2.2.1 rfl
def zw_457 := z_mt2 zlt_2_6.2.2.2.2.1 rfl
def zw_458 := z_mt2 zlt_2_6.2.2.2.2.2.1 rfl
def zw_459 := z_mt2 zlt_2_6.2.2.2.2.2.2.1 rfl
def zw_461 := z_mt2 zlt_2_6.2.2.2.2.2.2.2.2.1 rfl
def zw_462 := z_mt2 zlt_2_6.2.2.2.2.2.2.2.2.2.1 rfl
def zw_463 := z_mt2 zlt_2_6.2.2.2.2.2.2.2.2.2.2.1 rfl
def zw_465 := z_mt2 zlt_2_6.2.2.2.2.2.2.2.2.2.2.2.2.1 rfl
def zw_466 := z_mt2 zlt_2_6.2.2.2.2.2.2.2.2.2.2.2.2.2.1 rfl
def zw_467 := z_mt2 zlt_2_6.2.2.2.2.2.2.2.2.2.2.2.2.2.2.1 rfl
def zw_468 := z_mt2 zlt_2_6.2.2.2.2.2.2.2.2.2.2.2.2.2.2.2 rfl
def zw_469 := z_mt2 zlt_2_7.1 rfl
def zw_470 := z_mt2 zlt_2_7.2.1 rfl
def zw_471 := z_mt2 zlt_2_7.2.2.1 rfl
def zw_473 := z_mt2 zlt_2_7.2.2.2.2.1 rfl
def zw_474 := z_mt2 zlt_2_7.2.2.2.2.2.1 rfl
def zw_475 := z_mt2 zlt_2_7.2.2.2.2.2.2.1 rfl
def zw_476 := z_mt2 zlt_2_7.2.2.2.2.2.2.2.1 rfl
def zw_478 := z_mt2 zlt_2_7.2.2.2.2.2.2.2.2.2.1 rfl
def zw_479 := z_mt2 zlt_2_7.2.2.2.2.2.2.2.2.2.2.1 rfl
def zw_480 := z_mt2 zlt_2_7.2.2.2.2.2.2.2.2.2.2.2.1 rfl
def zw_481 := z_mt2 zlt_2_7.2.2.2.2.2.2.2.2.2.2.2.2.1 rfl
def zw_482 := z_mt2 zlt_2_7.2.2.2.2.2.2.2.2.2.2.2.2.2.1 rfl
def zw_483 := z_mt2 zlt_2_7.2.2.2.2.2.2.2.2.2.2.2.2.2.2.1 rfl
def zw_484 := z_mt2 zlt_2_7.2.2.2.2.2.2.2.2.2.2.2.2.2.2.2 rfl
def zw_485 := z_mt2 zlt_2_8.1 rfl
def zw_486 := z_mt2 zlt_2_8.2.1 rfl
def zw_487 := z_mt2 zlt_2_8.2.2.1 rfl
def zw_488 := z_mt2 zlt_2_8.2.2.2.1 rfl
def zw_490 := z_mt2 zlt_2_8.2.2.2.2.2.1 rfl
def zw_491 := z_mt2 zlt_2_8.2.2.2.2.2.2.1 rfl
def zw_492 := z_mt2 zlt_2_8.2.2.2.2.2.2.2.1 rfl
def zw_493 := z_mt2 zlt_2_8.2.2.2.2.2.2.2.2.1 rfl
def zw_495 := z_mt2 zlt_2_8.2.2.2.2.2.2.2.2.2.2.1 rfl
def zw_496 := z_mt2 zlt_2_8.2.2.2.2.2.2.2.2.2.2.2.1 rfl
def zw_497 := z_mt2 zlt_2_8.2.2.2.2.2.2.2.2.2.2.2.2.1 rfl
def zw_498 := z_mt2 zlt_2_8.2.2.2.2.2.2.2.2.2.2.2.2.2.1 rfl
def zw_499 := z_mt2 zlt_2_8.2.2.2.2.2.2.2.2.2.2.2.2.2.2.1 rfl
def zw_500 := z_mt2 zlt_2_8.2.2.2.2.2.2.2.2.2.2.2.2.2.2.2 rfl
def zw_501 := z_mt2 zlt_2_9.1 rfl
def zw_503 := z_mt2 zlt_2_9.2.2.1 rfl
def zw_504 := z_mt2 zlt_2_9.2.2.2.1 rfl
def zw_505 := z_mt2 zlt_2_9.2.2.2.2.1 rfl
def zw_507 := z_mt2 zlt_2_9.2.2.2.2.2.2.1 rfl
def zw_508 := z_mt2 zlt_2_9.2.2.2.2.2.2.2.1 rfl
def zw_509 := z_mt2 zlt_2_9.2.2.2.2.2.2.2.2.1 rfl
def zw_510 := z_mt2 zlt_2_9.2.2.2.2.2.2.2.2.2.1 rfl
def zw_511 := z_mt2 zlt_2_9.2.2.2.2.2.2.2.2.2.2.1 rfl
def zw_512 := z_mt2 zlt_2_9.2.2.2.2.2.2.2.2.2.2.2.1 rfl
def zw_513 := z_mt2 zlt_2_9.2.2.2.2.2.2.2.2.2.2.2.2.1 rfl
def zw_514 := z_mt2 zlt_2_9.2.2.2.2.2.2.2.2.2.2.2.2.2.1 rfl
def zw_515 := z_mt2 zlt_2_9.2.2.2.2.2.2.2.2.2.2.2.2.2.2.1 rfl
def zw_516 := z_mt2 zlt_2_9.2.2.2.2.2.2.2.2.2.2.2.2.2.2.2 rfl
def zw_517 := z_mt2 zlt_2_10.1 rfl
def zw_518 := z_mt2 zlt_2_10.2.1 rfl
def zw_519 := z_mt2 zlt_2_10.2.2.1 rfl
def zw_520 := z_mt2 zlt_2_10.2.2.2.1 rfl
def zw_521 := z_mt2 zlt_2_10.2.2.2.2.1 rfl
def zw_522 := z_mt2 zlt_2_10.2.2.2.2.2.1 rfl
def zw_523 := z_mt2 zlt_2_10.2.2.2.2.2.2.1 rfl
def zw_524 := z_mt2 zlt_2_10.2.2.2.2.2.2.2.1 rfl
def zw_525 := z_mt2 zlt_2_10.2.2.2.2.2.2.2.2.1 rfl
def zw_526 := z_mt2 zlt_2_10.2.2.2.2.2.2.2.2.2.1 rfl
def zw_527 := z_mt2 zlt_2_10.2.2.2.2.2.2.2.2.2.2.1 rfl
def zw_528 := z_mt2 zlt_2_10.2.2.2.2.2.2.2.2.2.2.2.1 rfl
def zw_529 := z_mt2 zlt_2_10.2.2.2.2.2.2.2.2.2.2.2.2.1 rfl
def zw_530 := z_mt2 zlt_2_10.2.2.2.2.2.2.2.2.2.2.2.2.2.1 rfl
def zw_531 := z_mt2 zlt_2_10.2.2.2.2.2.2.2.2.2.2.2.2.2.2.1 rfl
def zw_533 := z_mt2 zlt_2_11.1 rfl
def zw_534 := z_mt2 zlt_2_11.2.1 rfl
def zw_535 := z_mt2 zlt_2_11.2.2.1 rfl
def zw_536 := z_mt2 zlt_2_11.2.2.2.1 rfl
def zw_537 := z_mt2 zlt_2_11.2.2.2.2.1 rfl
def zw_538 := z_mt2 zlt_2_11.2.2.2.2.2.1 rfl
def zw_539 := z_mt2 zlt_2_11.2.2.2.2.2.2.1 rfl
def zw_540 := z_mt2 zlt_2_11.2.2.2.2.2.2.2.1 rfl
def zw_541 := z_mt2 zlt_2_11.2.2.2.2.2.2.2.2.1 rfl
def zw_542 := z_mt2 zlt_2_11.2.2.2.2.2.2.2.2.2.1 rfl
def zw_543 := z_mt2 zlt_2_11.2.2.2.2.2.2.2.2.2.2.1 rfl
def zw_544 := z_mt2 zlt_2_11.2.2.2.2.2.2.2.2.2.2.2.1 rfl
def zw_545 := z_mt2 zlt_2_11.2.2.2.2.2.2.2.2.2.2.2.2.1 rfl
def zw_546 := z_mt2 zlt_2_11.2.2.2.2.2.2.2.2.2.2.2.2.2.1 rfl
def zw_547 := z_mt2 zlt_2_11.2.2.2.2.2.2.2.2.2.2.2.2.2.2.1 rfl
def zw_548 := z_mt2 zlt_2_11.2.2.2.2.2.2.2.2.2.2.2.2.2.2.2 rfl
def zw_549 := z_mt2 zlt_2_12.1 rfl
def zw_550 := z_mt2 zlt_2_12.2.1 rfl
def zw_551 := z_mt2 zlt_2_12.2.2.1 rfl
def zw_552 := z_mt2 zlt_2_12.2.2.2.1 rfl
def zw_553 := z_mt2 zlt_2_12.2.2.2.2.1 rfl
def zw_555 := z_mt2 zlt_2_12.2.2.2.2.2.2.1 rfl
def zw_556 := z_mt2 zlt_2_12.2.2.2.2.2.2.2.1 rfl
def zw_557 := z_mt2 zlt_2_12.2.2.2.2.2.2.2.2.1 rfl
def zw_558 := z_mt2 zlt_2_12.2.2.2.2.2.2.2.2.2.1 rfl
def zw_559 := z_mt2 zlt_2_12.2.2.2.2.2.2.2.2.2.2.1 rfl
def zw_560 := z_mt2 zlt_2_12.2.2.2.2.2.2.2.2.2.2.2.1 rfl
def zw_561 := z_mt2 zlt_2_12.2.2.2.2.2.2.2.2.2.2.2.2.1 rfl
def zw_562 := z_mt2 zlt_2_12.2.2.2.2.2.2.2.2.2.2.2.2.2.1 rfl
def zw_563 := z_mt2 zlt_2_12.2.2.2.2.2.2.2.2.2.2.2.2.2.2.1 rfl
def zw_564 := z_mt2 zlt_2_12.2.2.2.2.2.2.2.2.2.2.2.2.2.2.2 rfl
def zw_565 := z_mt2 zlt_2_13.1 rfl
def zw_566 := z_mt2 zlt_2_13.2.1 rfl
def zw_567 := z_mt2 zlt_2_13.2.2.1 rfl
def zw_568 := z_mt2 zlt_2_13.2.2.2.1 rfl
def zw_569 := z_mt2 zlt_2_13.2.2.2.2.1 rfl
def zw_570 := z_mt2 zlt_2_13.2.2.2.2.2.1 rfl
def zw_571 := z_mt2 zlt_2_13.2.2.2.2.2.2.1 rfl
def zw_573 := z_mt2 zlt_2_13.2.2.2.2.2.2.2.2.1 rfl
def zw_574 := z_mt2 zlt_2_13.2.2.2.2.2.2.2.2.2.1 rfl
def zw_575 := z_mt2 zlt_2_13.2.2.2.2.2.2.2.2.2.2.1 rfl
def zw_576 := z_mt2 zlt_2_13.2.2.2.2.2.2.2.2.2.2.2.1 rfl
def zw_577 := z_mt2 zlt_2_13.2.2.2.2.2.2.2.2.2.2.2.2.1 rfl
def zw_578 := z_mt2 zlt_2_13.2.2.2.2.2.2.2.2.2.2.2.2.2.1 rfl
def zw_579 := z_mt2 zlt_2_13.2.2.2.2.2.2.2.2.2.2.2.2.2.2.1 rfl
def zw_580 := z_mt2 zlt_2_13.2.2.2.2.2.2.2.2.2.2.2.2.2.2.2 rfl
def zw_581 := z_mt2 zlt_2_14.1 rfl
def zw_582 := z_mt2 zlt_2_14.2.1 rfl
def zw_583 := z_mt2 zlt_2_14.2.2.1 rfl
def zw_584 := z_mt2 zlt_2_14.2.2.2.1 rfl
def zw_585 := z_mt2 zlt_2_14.2.2.2.2.1 rfl
def zw_586 := z_mt2 zlt_2_14.2.2.2.2.2.1 rfl
def zw_587 := z_mt2 zlt_2_14.2.2.2.2.2.2.1 rfl
def zw_588 := z_mt2 zlt_2_14.2.2.2.2.2.2.2.1 rfl
def zw_589 := z_mt2 zlt_2_14.2.2.2.2.2.2.2.2.1 rfl
def zw_590 := z_mt2 zlt_2_14.2.2.2.2.2.2.2.2.2.1 rfl
def zw_591 := z_mt2 zlt_2_14.2.2.2.2.2.2.2.2.2.2.1 rfl
def zw_592 := z_mt2 zlt_2_14.2.2.2.2.2.2.2.2.2.2.2.1 rfl
def zw_593 := z_mt2 zlt_2_14.2.2.2.2.2.2.2.2.2.2.2.2.1 rfl
def zw_595 := z_mt2 zlt_2_14.2.2.2.2.2.2.2.2.2.2.2.2.2.2.1 rfl
def zw_596 := z_mt2 zlt_2_14.2.2.2.2.2.2.2.2.2.2.2.2.2.2.2 rfl
def zw_597 := z_mt3 zlt_3_0.1 rfl
def zw_598 := z_mt3 zlt_3_0.2.1 rfl
def zw_599 := z_mt3 zlt_3_0.2.2.1 rfl
def zw_600 := z_mt3 zlt_3_0.2.2.2.1 rfl
def zw_601 := z_mt3 zlt_3_0.2.2.2.2.1 rfl
def zw_602 := z_mt3 zlt_3_0.2.2.2.2.2.1 rfl
def zw_603 := z_mt3 zlt_3_0.2.2.2.2.2.2.1 rfl
def zw_604 := z_mt3 zlt_3_0.2.2.2.2.2.2.2.1 rfl
def zw_605 := z_mt3 zlt_3_0.2.2.2.2.2.2.2.2.1 rfl
def zw_606 := z_mt3 zlt_3_0.2.2.2.2.2.2.2.2.2.1 rfl
def zw_607 := z_mt3 zlt_3_0.2.2.2.2.2.2.2.2.2.2.1 rfl
def zw_608 := z_mt3 zlt_3_0.2.2.2.2.2.2.2.2.2.2.2.1 rfl
def zw_609 := z_mt3 zlt_3_0.2.2.2.2.2.2.2.2.2.2.2.2.1 rfl
def zw_610 := z_mt3 zlt_3_0.2.2.2.2.2.2.2.2.2.2.2.2.2.1 rfl
def zw_611 := z_mt3 zlt_3_0.2.2.2.2.2.2.2.2.2.2.2.2.2.2.1 rfl
def zw_612 := z_mt3 zlt_3_0.2.2.2.2.2.2.2.2.2.2.2.2.2.2.2 rfl
def zw_613 := z_mt3 zlt_3_1.1 rfl
def zw_614 := z_mt3 zlt_3_1.2.1 rfl
def zw_615 := z_mt3 zlt_3_1.2.2.1 rfl
def zw_616 := z_mt3 zlt_3_1.2.2.2.1 rfl
def zw_617 := z_mt3 zlt_3_1.2.2.2.2.1 rfl
def zw_618 := z_mt3 zlt_3_1.2.2.2.2.2.1 rfl
def zw_619 := z_mt3 zlt_3_1.2.2.2.2.2.2.1 rfl
def zw_620 := z_mt3 zlt_3_1.2.2.2.2.2.2.2.1 rfl
def zw_621 := z_mt3 zlt_3_1.2.2.2.2.2.2.2.2.1 rfl
def zw_622 := z_mt3 zlt_3_1.2.2.2.2.2.2.2.2.2.1 rfl
def zw_623 := z_mt3 zlt_3_1.2.2.2.2.2.2.2.2.2.2.1 rfl
def zw_624 := z_mt3 zlt_3_1.2.2.2.2.2.2.2.2.2.2.2.1 rfl
def zw_625 := z_mt3 zlt_3_1.2.2.2.2.2.2.2.2.2.2.2.2.1 rfl
def zw_626 := z_mt3 zlt_3_1.2.2.2.2.2.2.2.2.2.2.2.2.2.1 rfl
def zw_627 := z_mt3 zlt_3_1.2.2.2.2.2.2.2.2.2.2.2.2.2.2.1 rfl
def zw_628 := z_mt3 zlt_3_1.2.2.2.2.2.2.2.2.2.2.2.2.2.2.2 rfl
def zw_629 := z_mt3 zlt_3_2.1 rfl
def zw_630 := z_mt3 zlt_3_2.2.1 rfl
def zw_631 := z_mt3 zlt_3_2.2.2.1 rfl
def zw_632 := z_mt3 zlt_3_2.2.2.2.1 rfl
def zw_633 := z_mt3 zlt_3_2.2.2.2.2.1 rfl
def zw_634 := z_mt3 zlt_3_2.2.2.2.2.2.1 rfl
def zw_635 := z_mt3 zlt_3_2.2.2.2.2.2.2.1 rfl
def zw_636 := z_mt3 zlt_3_2.2.2.2.2.2.2.2.1 rfl
def zw_637 := z_mt3 zlt_3_2.2.2.2.2.2.2.2.2.1 rfl
def zw_638 := z_mt3 zlt_3_2.2.2.2.2.2.2.2.2.2.1 rfl
def zw_639 := z_mt3 zlt_3_2.2.2.2.2.2.2.2.2.2.2.1 rfl
def zw_640 := z_mt3 zlt_3_2.2.2.2.2.2.2.2.2.2.2.2.1 rfl
def zw_641 := z_mt3 zlt_3_2.2.2.2.2.2.2.2.2.2.2.2.2.1 rfl
def zw_642 := z_mt3 zlt_3_2.2.2.2.2.2.2.2.2.2.2.2.2.2.1 rfl
def zw_643 := z_mt3 zlt_3_2.2.2.2.2.2.2.2.2.2.2.2.2.2.2.1 rfl
def zw_644 := z_mt3 zlt_3_2.2.2.2.2.2.2.2.2.2.2.2.2.2.2.2 rfl
def zw_645 := z_mt3 zlt_3_3.1 rfl
def zw_646 := z_mt3 zlt_3_3.2.1 rfl
def zw_647 := z_mt3 zlt_3_3.2.2.1 rfl
def zw_648 := z_mt3 zlt_3_3.2.2.2.1 rfl
def zw_649 := z_mt3 zlt_3_3.2.2.2.2.1 rfl
def zw_650 := z_mt3 zlt_3_3.2.2.2.2.2.1 rfl
def zw_651 := z_mt3 zlt_3_3.2.2.2.2.2.2.1 rfl
def zw_652 := z_mt3 zlt_3_3.2.2.2.2.2.2.2.1 rfl
def zw_653 := z_mt3 zlt_3_3.2.2.2.2.2.2.2.2.1 rfl
def zw_654 := z_mt3 zlt_3_3.2.2.2.2.2.2.2.2.2.1 rfl
def zw_655 := z_mt3 zlt_3_3.2.2.2.2.2.2.2.2.2.2.1 rfl
def zw_656 := z_mt3 zlt_3_3.2.2.2.2.2.2.2.2.2.2.2.1 rfl
def zw_657 := z_mt3 zlt_3_3.2.2.2.2.2.2.2.2.2.2.2.2.1 rfl
def zw_658 := z_mt3 zlt_3_3.2.2.2.2.2.2.2.2.2.2.2.2.2.1 rfl
def zw_659 := z_mt3 zlt_3_3.2.2.2.2.2.2.2.2.2.2.2.2.2.2.1 rfl
def zw_660 := z_mt3 zlt_3_3.2.2.2.2.2.2.2.2.2.2.2.2.2.2.2 rfl
def zw_661 := z_mt3 zlt_3_4.1 rfl
def zw_662 := z_mt3 zlt_3_4.2.1 rfl
def zw_663 := z_mt3 zlt_3_4.2.2.1 rfl
def zw_664 := z_mt3 zlt_3_4.2.2.2.1 rfl
def zw_665 := z_mt3 zlt_3_4.2.2.2.2.1 rfl
def zw_666 := z_mt3 zlt_3_4.2.2.2.2.2.1 rfl
def zw_667 := z_mt3 zlt_3_4.2.2.2.2.2.2.1 rfl
def zw_668 := z_mt3 zlt_3_4.2.2.2.2.2.2.2.1 rfl
def zw_669 := z_mt3 zlt_3_4.2.2.2.2.2.2.2.2.1 rfl
def zw_670 := z_mt3 zlt_3_4.2.2.2.2.2.2.2.2.2.1 rfl
def zw_671 := z_mt3 zlt_3_4.2.2.2.2.2.2.2.2.2.2.1 rfl
def zw_672 := z_mt3 zlt_3_4.2.2.2.2.2.2.2.2.2.2.2.1 rfl
def zw_673 := z_mt3 zlt_3_4.2.2.2.2.2.2.2.2.2.2.2.2.1 rfl
def zw_674 := z_mt3 zlt_3_4.2.2.2.2.2.2.2.2.2.2.2.2.2.1 rfl
def zw_675 := z_mt3 zlt_3_4.2.2.2.2.2.2.2.2.2.2.2.2.2.2.1 rfl
def zw_676 := z_mt3 zlt_3_4.2.2.2.2.2.2.2.2.2.2.2.2.2.2.2 rfl
def zw_677 := z_mt3 zlt_3_5.1 rfl
def zw_678 := z_mt3 zlt_3_5.2.1 rfl
def zw_679 := z_mt3 zlt_3_5.2.2.1 rfl
def zw_680 := z_mt3 zlt_3_5.2.2.2.1 rfl
def zw_681 := z_mt3 zlt_3_5.2.2.2.2.1 rfl
def zw_682 := z_mt3 zlt_3_5.2.2.2.2.2.1 rfl
def zw_683 := z_mt3 zlt_3_5.2.2.2.2.2.2.1 rfl
def zw_684 := z_mt3 zlt_3_5.2.2.2.2.2.2.2.1 rfl
def zw_685 := z_mt3 zlt_3_5.2.2.2.2.2.2.2.2.1 rfl
def zw_686 := z_mt3 zlt_3_5.2.2.2.2.2.2.2.2.2.1 rfl
def zw_688 := z_mt3 zlt_3_5.2.2.2.2.2.2.2.2.2.2.2.1 rfl
def zw_689 := z_mt3 zlt_3_5.2.2.2.2.2.2.2.2.2.2.2.2.1 rfl
def zw_690 := z_mt3 zlt_3_5.2.2.2.2.2.2.2.2.2.2.2.2.2.1 rfl
def zw_691 := z_mt3 zlt_3_5.2.2.2.2.2.2.2.2.2.2.2.2.2.2.1 rfl
def zw_692 := z_mt3 zlt_3_5.2.2.2.2.2.2.2.2.2.2.2.2.2.2.2 rfl
def zw_693 := z_mt3 zlt_3_6.1 rfl
def zw_694 := z_mt3 zlt_3_6.2.1 rfl
def zw_695 := z_mt3 zlt_3_6.2.2.1 rfl
def zw_696 := z_mt3 zlt_3_6.2.2.2.1 rfl
def zw_697 := z_mt3 zlt_3_6.2.2.2.2.1 rfl
def zw_698 := z_mt3 zlt_3_6.2.2.2.2.2.1 rfl
def zw_699 := z_mt3 zlt_3_6.2.2.2.2.2.2.1 rfl
def zw_700 := z_mt3 zlt_3_6.2.2.2.2.2.2.2.1 rfl
def zw_701 := z_mt3 zlt_3_6.2.2.2.2.2.2.2.2.1 rfl
def zw_702 := z_mt3 zlt_3_6.2.2.2.2.2.2.2.2.2.1 rfl
def zw_703 := z_mt3 zlt_3_6.2.2.2.2.2.2.2.2.2.2.1 rfl
def zw_704 := z_mt3 zlt_3_6.2.2.2.2.2.2.2.2.2.2.2.1 rfl
def zw_705 := z_mt3 zlt_3_6.2.2.2.2.2.2.2.2.2.2.2.2.1 rfl
def zw_706 := z_mt3 zlt_3_6.2.2.2.2.2.2.2.2.2.2.2.2.2.1 rfl
def zw_707 := z_mt3 zlt_3_6.2.2.2.2.2.2.2.2.2.2.2.2.2.2.1 rfl
def zw_708 := z_mt3 zlt_3_6.2.2.2.2.2.2.2.2.2.2.2.2.2.2.2 rfl
def zw_709 := z_mt3 zlt_3_7.1 rfl
def zw_710 := z_mt3 zlt_3_7.2.1 rfl
def zw_711 := z_mt3 zlt_3_7.2.2.1 rfl
def zw_712 := z_mt3 zlt_3_7.2.2.2.1 rfl
def zw_713 := z_mt3 zlt_3_7.2.2.2.2.1 rfl
def zw_714 := z_mt3 zlt_3_7.2.2.2.2.2.1 rfl
def zw_715 := z_mt3 zlt_3_7.2.2.2.2.2.2.1 rfl
def zw_716 := z_mt3 zlt_3_7.2.2.2.2.2.2.2.1 rfl
def zw_717 := z_mt3 zlt_3_7.2.2.2.2.2.2.2.2.1 rfl
def zw_718 := z_mt3 zlt_3_7.2.2.2.2.2.2.2.2.2.1 rfl
def zw_719 := z_mt3 zlt_3_7.2.2.2.2.2.2.2.2.2.2.1 rfl
def zw_720 := z_mt3 zlt_3_7.2.2.2.2.2.2.2.2.2.2.2.1 rfl
def zw_721 := z_mt3 zlt_3_7.2.2.2.2.2.2.2.2.2.2.2.2.1 rfl
def zw_722 := z_mt3 zlt_3_7.2.2.2.2.2.2.2.2.2.2.2.2.2.1 rfl
def zw_723 := z_mt3 zlt_3_7.2.2.2.2.2.2.2.2.2.2.2.2.2.2.1 rfl
def zw_724 := z_mt3 zlt_3_7.2.2.2.2.2.2.2.2.2.2.2.2.2.2.2 rfl
def zw_725 := z_mt3 zlt_3_8.1 rfl
def zw_726 := z_mt3 zlt_3_8.2.1 rfl
def zw_727 := z_mt3 zlt_3_8.2.2.1 rfl
def zw_728 := z_mt3 zlt_3_8.2.2.2.1 rfl
def zw_729 := z_mt3 zlt_3_8.2.2.2.2.1 rfl
def zw_730 := z_mt3 zlt_3_8.2.2.2.2.2.1 rfl
def zw_731 := z_mt3 zlt_3_8.2.2.2.2.2.2.1 rfl
def zw_732 := z_mt3 zlt_3_8.2.2.2.2.2.2.2.1 rfl
def zw_733 := z_mt3 zlt_3_8.2.2.2.2.2.2.2.2.1 rfl
def zw_734 := z_mt3 zlt_3_8.2.2.2.2.2.2.2.2.2.1 rfl
def zw_735 := z_mt3 zlt_3_8.2.2.2.2.2.2.2.2.2.2.1 rfl
def zw_736 := z_mt3 zlt_3_8.2.2.2.2.2.2.2.2.2.2.2.1 rfl
def zw_737 := z_mt3 zlt_3_8.2.2.2.2.2.2.2.2.2.2.2.2.1 rfl
def zw_738 := z_mt3 zlt_3_8.2.2.2.2.2.2.2.2.2.2.2.2.2.1 rfl
def zw_739 := z_mt3 zlt_3_8.2.2.2.2.2.2.2.2.2.2.2.2.2.2.1 rfl
def zw_740 := z_mt3 zlt_3_8.2.2.2.2.2.2.2.2.2.2.2.2.2.2.2 rfl
def zw_741 := z_mt3 zlt_3_9.1 rfl
def zw_742 := z_mt3 zlt_3_9.2.1 rfl
def zw_743 := z_mt3 zlt_3_9.2.2.1 rfl
def zw_744 := z_mt3 zlt_3_9.2.2.2.1 rfl
def zw_745 := z_mt3 zlt_3_9.2.2.2.2.1 rfl
def zw_746 := z_mt3 zlt_3_9.2.2.2.2.2.1 rfl
def zw_747 := z_mt3 zlt_3_9.2.2.2.2.2.2.1 rfl
def zw_748 := z_mt3 zlt_3_9.2.2.2.2.2.2.2.1 rfl
def zw_749 := z_mt3 zlt_3_9.2.2.2.2.2.2.2.2.1 rfl
def zw_750 := z_mt3 zlt_3_9.2.2.2.2.2.2.2.2.2.1 rfl
def zw_751 := z_mt3 zlt_3_9.2.2.2.2.2.2.2.2.2.2.1 rfl
def zw_752 := z_mt3 zlt_3_9.2.2.2.2.2.2.2.2.2.2.2.1 rfl
def zw_753 := z_mt3 zlt_3_9.2.2.2.2.2.2.2.2.2.2.2.2.1 rfl
def zw_754 := z_mt3 zlt_3_9.2.2.2.2.2.2.2.2.2.2.2.2.2.1 rfl
def zw_755 := z_mt3 zlt_3_9.2.2.2.2.2.2.2.2.2.2.2.2.2.2.1 rfl
def zw_756 := z_mt3 zlt_3_9.2.2.2.2.2.2.2.2.2.2.2.2.2.2.2 rfl
def zw_757 := z_mt3 zlt_3_10.1 rfl
def zw_758 := z_mt3 zlt_3_10.2.1 rfl
def zw_759 := z_mt3 zlt_3_10.2.2.1 rfl
def zw_760 := z_mt3 zlt_3_10.2.2.2.1 rfl
def zw_762 := z_mt3 zlt_3_10.2.2.2.2.2.1 rfl
def zw_763 := z_mt3 zlt_3_10.2.2.2.2.2.2.1 rfl
def zw_764 := z_mt3 zlt_3_10.2.2.2.2.2.2.2.1 rfl
def zw_765 := z_mt3 zlt_3_10.2.2.2.2.2.2.2.2.1 rfl
def zw_766 := z_mt3 zlt_3_10.2.2.2.2.2.2.2.2.2.1 rfl
def zw_767 := z_mt3 zlt_3_10.2.2.2.2.2.2.2.2.2.2.1 rfl
def zw_768 := z_mt3 zlt_3_10.2.2.2.2.2.2.2.2.2.2.2.1 rfl
def zw_770 := z_mt3 zlt_3_10.2.2.2.2.2.2.2.2.2.2.2.2.2.1 rfl
def zw_771 := z_mt3 zlt_3_10.2.2.2.2.2.2.2.2.2.2.2.2.2.2.1 rfl
def zw_772 := z_mt3 zlt_3_10.2.2.2.2.2.2.2.2.2.2.2.2.2.2.2 rfl
def zw_773 := z_mt3 zlt_3_11.1 rfl
def zw_774 := z_mt3 zlt_3_11.2.1 rfl
def zw_775 := z_mt3 zlt_3_11.2.2.1 rfl
def zw_776 := z_mt3 zlt_3_11.2.2.2.1 rfl
def zw_777 := z_mt3 zlt_3_11.2.2.2.2.1 rfl
def zw_778 := z_mt3 zlt_3_11.2.2.2.2.2.1 rfl
def zw_779 := z_mt3 zlt_3_11.2.2.2.2.2.2.1 rfl
def zw_780 := z_mt3 zlt_3_11.2.2.2.2.2.2.2.1 rfl
def zw_781 := z_mt3 zlt_3_11.2.2.2.2.2.2.2.2.1 rfl
def zw_782 := z_mt3 zlt_3_11.2.2.2.2.2.2.2.2.2.1 rfl
def zw_783 := z_mt3 zlt_3_11.2.2.2.2.2.2.2.2.2.2.1 rfl
def zw_784 := z_mt3 zlt_3_11.2.2.2.2.2.2.2.2.2.2.2.1 rfl
def zw_785 := z_mt3 zlt_3_11.2.2.2.2.2.2.2.2.2.2.2.2.1 rfl
def zw_786 := z_mt3 zlt_3_11.2.2.2.2.2.2.2.2.2.2.2.2.2.1 rfl
def zw_787 := z_mt3 zlt_3_11.2.2.2.2.2.2.2.2.2.2.2.2.2.2.1 rfl
def zw_788 := z_mt3 zlt_3_11.2.2.2.2.2.2.2.2.2.2.2.2.2.2.2 rfl
def zw_789 := z_mt3 zlt_3_12.1 rfl
def zw_790 := z_mt3 zlt_3_12.2.1 rfl
def zw_791 := z_mt3 zlt_3_12.2.2.1 rfl
def zw_792 := z_mt3 zlt_3_12.2.2.2.1 rfl
def zw_793 := z_mt3 zlt_3_12.2.2.2.2.1 rfl
def zw_794 := z_mt3 zlt_3_12.2.2.2.2.2.1 rfl
def zw_795 := z_mt3 zlt_3_12.2.2.2.2.2.2.1 rfl
def zw_796 := z_mt3 zlt_3_12.2.2.2.2.2.2.2.1 rfl
def zw_797 := z_mt3 zlt_3_12.2.2.2.2.2.2.2.2.1 rfl
def zw_798 := z_mt3 zlt_3_12.2.2.2.2.2.2.2.2.2.1 rfl
def zw_799 := z_mt3 zlt_3_12.2.2.2.2.2.2.2.2.2.2.1 rfl
def zw_800 := z_mt3 zlt_3_12.2.2.2.2.2.2.2.2.2.2.2.1 rfl
def zw_801 := z_mt3 zlt_3_12.2.2.2.2.2.2.2.2.2.2.2.2.1 rfl
def zw_802 := z_mt3 zlt_3_12.2.2.2.2.2.2.2.2.2.2.2.2.2.1 rfl
def zw_803 := z_mt3 zlt_3_12.2.2.2.2.2.2.2.2.2.2.2.2.2.2.1 rfl
def zw_804 := z_mt3 zlt_3_12.2.2.2.2.2.2.2.2.2.2.2.2.2.2.2 rfl
def zw_872 := z_mt4 zlt_4_2.2.2.2.1 rfl
def zw_873 := z_mt4 zlt_4_2.2.2.2.2.1 rfl
def zw_874 := z_mt4 zlt_4_2.2.2.2.2.2.1 rfl
def zw_875 := z_mt4 zlt_4_2.2.2.2.2.2.2.1 rfl
def zw_876 := z_mt4 zlt_4_2.2.2.2.2.2.2.2.1 rfl
def zw_877 := z_mt4 zlt_4_2.2.2.2.2.2.2.2.2.1 rfl
def zw_878 := z_mt4 zlt_4_2.2.2.2.2.2.2.2.2.2.1 rfl
def zw_879 := z_mt4 zlt_4_2.2.2.2.2.2.2.2.2.2.2.1 rfl
def zw_880 := z_mt4 zlt_4_2.2.2.2.2.2.2.2.2.2.2.2.1 rfl
def zw_882 := z_mt4 zlt_4_2.2.2.2.2.2.2.2.2.2.2.2.2.2.1 rfl
def zw_883 := z_mt4 zlt_4_2.2.2.2.2.2.2.2.2.2.2.2.2.2.2.1 rfl
def zw_884 := z_mt4 zlt_4_2.2.2.2.2.2.2.2.2.2.2.2.2.2.2.2 rfl
def zw_885 := z_mt4 zlt_4_3.1 rfl
def zw_886 := z_mt4 zlt_4_3.2.1 rfl
def zw_887 := z_mt4 zlt_4_3.2.2.1 rfl
def zw_888 := z_mt4 zlt_4_3.2.2.2.1 rfl
def zw_889 := z_mt4 zlt_4_3.2.2.2.2.1 rfl
def zw_890 := z_mt4 zlt_4_3.2.2.2.2.2.1 rfl
def zw_906 := z_mt4 zlt_4_4.2.2.2.2.2.1 rfl
def zw_907 := z_mt4 zlt_4_4.2.2.2.2.2.2.1 rfl
def zw_908 := z_mt4 zlt_4_4.2.2.2.2.2.2.2.1 rfl
def zw_909 := z_mt4 zlt_4_4.2.2.2.2.2.2.2.2.1 rfl
def zw_910 := z_mt4 zlt_4_4.2.2.2.2.2.2.2.2.2.1 rfl
def zw_911 := z_mt4 zlt_4_4.2.2.2.2.2.2.2.2.2.2.1 rfl
def zw_912 := z_mt4 zlt_4_4.2.2.2.2.2.2.2.2.2.2.2.1 rfl
def zw_913 := z_mt4 zlt_4_4.2.2.2.2.2.2.2.2.2.2.2.2.1 rfl
def zw_915 := z_mt4 zlt_4_4.2.2.2.2.2.2.2.2.2.2.2.2.2.2.1 rfl
def zw_916 := z_mt4 zlt_4_4.2.2.2.2.2.2.2.2.2.2.2.2.2.2.2 rfl
def zw_917 := z_mt4 zlt_4_5.1 rfl
def zw_918 := z_mt4 zlt_4_5.2.1 rfl
def zw_919 := z_mt4 zlt_4_5.2.2.1 rfl
def zw_920 := z_mt4 zlt_4_5.2.2.2.1 rfl
def zw_921 := z_mt4 zlt_4_5.2.2.2.2.1 rfl
def zw_922 := z_mt4 zlt_4_5.2.2.2.2.2.1 rfl
def zw_924 := z_mt4 zlt_4_5.2.2.2.2.2.2.2.1 rfl
def zw_925 := z_mt4 zlt_4_5.2.2.2.2.2.2.2.2.1 rfl
def zw_927 := z_mt4 zlt_4_5.2.2.2.2.2.2.2.2.2.2.1 rfl
def zw_928 := z_mt4 zlt_4_5.2.2.2.2.2.2.2.2.2.2.2.1 rfl
def zw_929 := z_mt4 zlt_4_5.2.2.2.2.2.2.2.2.2.2.2.2.1 rfl
def zw_930 := z_mt4 zlt_4_5.2.2.2.2.2.2.2.2.2.2.2.2.2.1 rfl
def zw_931 := z_mt4 zlt_4_5.2.2.2.2.2.2.2.2.2.2.2.2.2.2.1 rfl
def zw_932 := z_mt4 zlt_4_5.2.2.2.2.2.2.2.2.2.2.2.2.2.2.2 rfl
def zw_933 := z_mt4 zlt_4_6.1 rfl
def zw_934 := z_mt4 zlt_4_6.2.1 rfl
def zw_936 := z_mt4 zlt_4_6.2.2.2.1 rfl
def zw_937 := z_mt4 zlt_4_6.2.2.2.2.1 rfl
def zw_939 := z_mt4 zlt_4_6.2.2.2.2.2.2.1 rfl
def zw_940 := z_mt4 zlt_4_6.2.2.2.2.2.2.2.1 rfl
def zw_941 := z_mt4 zlt_4_6.2.2.2.2.2.2.2.2.1 rfl
def zw_942 := z_mt4 zlt_4_6.2.2.2.2.2.2.2.2.2.1 rfl
def zw_943 := z_mt4 zlt_4_6.2.2.2.2.2.2.2.2.2.2.1 rfl
def zw_944 := z_mt4 zlt_4_6.2.2.2.2.2.2.2.2.2.2.2.1 rfl
def zw_945 := z_mt4 zlt_4_6.2.2.2.2.2.2.2.2.2.2.2.2.1 rfl
def zw_946 := z_mt4 zlt_4_6.2.2.2.2.2.2.2.2.2.2.2.2.2.1 rfl
def zw_948 := z_mt4 zlt_4_6.2.2.2.2.2.2.2.2.2.2.2.2.2.2.2 rfl
def zw_949 := z_mt4 zlt_4_7.1 rfl
def zw_951 := z_mt4 zlt_4_7.2.2.1 rfl
def zw_952 := z_mt4 zlt_4_7.2.2.2.1 rfl
def zw_953 := z_mt4 zlt_4_7.2.2.2.2.1 rfl
def zw_954 := z_mt4 zlt_4_7.2.2.2.2.2.1 rfl
def zw_955 := z_mt4 zlt_4_7.2.2.2.2.2.2.1 rfl
def zw_956 := z_mt4 zlt_4_7.2.2.2.2.2.2.2.1 rfl
def zw_957 := z_mt4 zlt_4_7.2.2.2.2.2.2.2.2.1 rfl
def zw_958 := z_mt4 zlt_4_7.2.2.2.2.2.2.2.2.2.1 rfl
def zw_959 := z_mt4 zlt_4_7.2.2.2.2.2.2.2.2.2.2.1 rfl
def zw_960 := z_mt4 zlt_4_7.2.2.2.2.2.2.2.2.2.2.2.1 rfl
def zw_961 := z_mt4 zlt_4_7.2.2.2.2.2.2.2.2.2.2.2.2.1 rfl
def zw_962 := z_mt4 zlt_4_7.2.2.2.2.2.2.2.2.2.2.2.2.2.1 rfl
def zw_963 := z_mt4 zlt_4_7.2.2.2.2.2.2.2.2.2.2.2.2.2.2.1 rfl
def zw_964 := z_mt4 zlt_4_7.2.2.2.2.2.2.2.2.2.2.2.2.2.2.2 rfl
def zw_965 := z_mt4 zlt_4_8.1 rfl
def zw_966 := z_mt4 zlt_4_8.2.1 rfl
def zw_968 := z_mt4 zlt_4_8.2.2.2.1 rfl
def zw_969 := z_mt4 zlt_4_8.2.2.2.2.1 rfl
def zw_970 := z_mt4 zlt_4_8.2.2.2.2.2.1 rfl
def zw_971 := z_mt4 zlt_4_8.2.2.2.2.2.2.1 rfl
def zw_972 := z_mt4 zlt_4_8.2.2.2.2.2.2.2.1 rfl
def zw_973 := z_mt4 zlt_4_8.2.2.2.2.2.2.2.2.1 rfl
def zw_974 := z_mt4 zlt_4_8.2.2.2.2.2.2.2.2.2.1 rfl
def zw_976 := z_mt4 zlt_4_8.2.2.2.2.2.2.2.2.2.2.2.1 rfl
def zw_978 := z_mt4 zlt_4_8.2.2.2.2.2.2.2.2.2.2.2.2.2.1 rfl
def zw_979 := z_mt4 zlt_4_8.2.2.2.2.2.2.2.2.2.2.2.2.2.2.1 rfl
def zw_980 := z_mt4 zlt_4_8.2.2.2.2.2.2.2.2.2.2.2.2.2.2.2 rfl
def zw_981 := z_mt4 zlt_4_9.1 rfl
def zw_982 := z_mt4 zlt_4_9.2.1 rfl
def zw_983 := z_mt4 zlt_4_9.2.2.1 rfl
def zw_984 := z_mt4 zlt_4_9.2.2.2.1 rfl
def zw_985 := z_mt4 zlt_4_9.2.2.2.2.1 rfl
def zw_986 := z_mt4 zlt_4_9.2.2.2.2.2.1 rfl
def zw_987 := z_mt4 zlt_4_9.2.2.2.2.2.2.1 rfl
def zw_988 := z_mt4 zlt_4_9.2.2.2.2.2.2.2.1 rfl
def zw_990 := z_mt4 zlt_4_9.2.2.2.2.2.2.2.2.2.1 rfl
def zw_991 := z_mt4 zlt_4_9.2.2.2.2.2.2.2.2.2.2.1 rfl
def zw_992 := z_mt4 zlt_4_9.2.2.2.2.2.2.2.2.2.2.2.1 rfl
def zw_993 := z_mt4 zlt_4_9.2.2.2.2.2.2.2.2.2.2.2.2.1 rfl
def zw_1009 := z_mt4 zlt_4_10.2.2.2.2.2.2.2.2.2.2.2.2.1 rfl
def zw_1011 := z_mt4 zlt_4_10.2.2.2.2.2.2.2.2.2.2.2.2.2.2.1 rfl
def zw_1012 := z_mt4 zlt_4_10.2.2.2.2.2.2.2.2.2.2.2.2.2.2.2 rfl
def zw_1013 := z_mt4 zlt_4_11.1 rfl
def zw_1014 := z_mt4 zlt_4_11.2.1 rfl
def zw_1015 := z_mt4 zlt_4_11.2.2.1 rfl
def zw_1016 := z_mt4 zlt_4_11.2.2.2.1 rfl
def zw_1017 := z_mt4 zlt_4_11.2.2.2.2.1 rfl
def zw_1019 := z_mt4 zlt_4_11.2.2.2.2.2.2.1 rfl
def zw_1020 := z_mt4 zlt_4_11.2.2.2.2.2.2.2.1 rfl
def zw_1021 := z_mt4 zlt_4_11.2.2.2.2.2.2.2.2.1 rfl
def zw_1022 := z_mt4 zlt_4_11.2.2.2.2.2.2.2.2.2.1 rfl
def zw_1023 := z_mt4 zlt_4_11.2.2.2.2.2.2.2.2.2.2.1 rfl
def zw_1024 := z_mt4 zlt_4_11.2.2.2.2.2.2.2.2.2.2.2.1 rfl
def zw_1025 := z_mt4 zlt_4_11.2.2.2.2.2.2.2.2.2.2.2.2.1 rfl
def zw_1027 := z_mt4 zlt_4_11.2.2.2.2.2.2.2.2.2.2.2.2.2.2.1 rfl
def zw_1028 := z_mt4 zlt_4_11.2.2.2.2.2.2.2.2.2.2.2.2.2.2.2 rfl
def zw_1029 := z_mt4 zlt_4_12.1 rfl
def zw_1030 := z_mt4 zlt_4_12.2.1 rfl
def zw_1031 := z_mt4 zlt_4_12.2.2.1 rfl
def zw_1032 := z_mt4 zlt_4_12.2.2.2.1 rfl
def zw_1033 := z_mt4 zlt_4_12.2.2.2.2.1 rfl
def zw_1034 := z_mt4 zlt_4_12.2.2.2.2.2.1 rfl
def zw_1035 := z_mt4 zlt_4_12.2.2.2.2.2.2.1 rfl
def zw_1037 := z_mt4 zlt_4_12.2.2.2.2.2.2.2.2.1 rfl
def zw_1038 := z_mt4 zlt_4_12.2.2.2.2.2.2.2.2.2.1 rfl
def zw_1039 := z_mt4 zlt_4_12.2.2.2.2.2.2.2.2.2.2.1 rfl
def zw_1040 := z_mt4 zlt_4_12.2.2.2.2.2.2.2.2.2.2.2.1 rfl
def zw_1041 := z_mt4 zlt_4_12.2.2.2.2.2.2.2.2.2.2.2.2.1 rfl
def zw_1042 := z_mt4 zlt_4_12.2.2.2.2.2.2.2.2.2.2.2.2.2.1 rfl
def zw_1043 := z_mt4 zlt_4_12.2.2.2.2.2.2.2.2.2.2.2.2.2.2.1 rfl
def zw_1044 := z_mt4 zlt_4_12.2.2.2.2.2.2.2.2.2.2.2.2.2.2.2 rfl
def zw_1045 := z_mt4 zlt_4_13.1 rfl
def zw_1046 := z_mt4 zlt_4_13.2.1 rfl
def zw_1062 := z_mt4 zlt_4_14.2.1 rfl
def zw_1063 := z_mt4 zlt_4_14.2.2.1 rfl
def zw_1064 := z_mt4 zlt_4_14.2.2.2.1 rfl
def zw_1065 := z_mt4 zlt_4_14.2.2.2.2.1 rfl
def zw_1066 := z_mt4 zlt_4_14.2.2.2.2.2.1 rfl
def zw_1067 := z_mt4 zlt_4_14.2.2.2.2.2.2.1 rfl
def zw_1068 := z_mt4 zlt_4_14.2.2.2.2.2.2.2.1 rfl
def zw_1069 := z_mt4 zlt_4_14.2.2.2.2.2.2.2.2.1 rfl
def zw_1070 := z_mt4 zlt_4_14.2.2.2.2.2.2.2.2.2.1 rfl
def zw_1071 := z_mt4 zlt_4_14.2.2.2.2.2.2.2.2.2.2.1 rfl
def zw_1072 := z_mt4 zlt_4_14.2.2.2.2.2.2.2.2.2.2.2.1 rfl
def zw_1073 := z_mt4 zlt_4_14.2.2.2.2.2.2.2.2.2.2.2.2.1 rfl
def zw_1074 := z_mt4 zlt_4_14.2.2.2.2.2.2.2.2.2.2.2.2.2.1 rfl
def zw_1075 := z_mt4 zlt_4_14.2.2.2.2.2.2.2.2.2.2.2.2.2.2.1 rfl
def zw_1076 := z_mt4 zlt_4_14.2.2.2.2.2.2.2.2.2.2.2.2.2.2.2 rfl
def zw_1077 := z_mt5 zlt_5_0.1 rfl
def zw_1078 := z_mt5 zlt_5_0.2.1 rfl
def zw_1079 := z_mt5 zlt_5_0.2.2.1 rfl
def zw_1080 := z_mt5 zlt_5_0.2.2.2.1 rfl
def zw_1081 := z_mt5 zlt_5_0.2.2.2.2.1 rfl
def zw_1082 := z_mt5 zlt_5_0.2.2.2.2.2.1 rfl
def zw_1083 := z_mt5 zlt_5_0.2.2.2.2.2.2.1 rfl
def zw_1084 := z_mt5 zlt_5_0.2.2.2.2.2.2.2.1 rfl
def zw_1085 := z_mt5 zlt_5_0.2.2.2.2.2.2.2.2.1 rfl
def zw_1086 := z_mt5 zlt_5_0.2.2.2.2.2.2.2.2.2.1 rfl
def zw_1087 := z_mt5 zlt_5_0.2.2.2.2.2.2.2.2.2.2.1 rfl
def zw_1088 := z_mt5 zlt_5_0.2.2.2.2.2.2.2.2.2.2.2.1 rfl
def zw_1089 := z_mt5 zlt_5_0.2.2.2.2.2.2.2.2.2.2.2.2.1 rfl
def zw_1090 := z_mt5 zlt_5_0.2.2.2.2.2.2.2.2.2.2.2.2.2.1 rfl
def zw_1091 := z_mt5 zlt_5_0.2.2.2.2.2.2.2.2.2.2.2.2.2.2.1 rfl
def zw_1092 := z_mt5 zlt_5_0.2.2.2.2.2.2.2.2.2.2.2.2.2.2.2 rfl
def zw_1093 := z_mt5 zlt_5_1.1 rfl
def zw_1094 := z_mt5 zlt_5_1.2.1 rfl
def zw_1095 := z_mt5 zlt_5_1.2.2.1 rfl
def zw_1096 := z_mt5 zlt_5_1.2.2.2.1 rfl
def zw_1097 := z_mt5 zlt_5_1.2.2.2.2.1 rfl
def zw_1098 := z_mt5 zlt_5_1.2.2.2.2.2.1 rfl
def zw_1099 := z_mt5 zlt_5_1.2.2.2.2.2.2.1 rfl
def zw_1100 := z_mt5 zlt_5_1.2.2.2.2.2.2.2.1 rfl
def zw_1101 := z_mt5 zlt_5_1.2.2.2.2.2.2.2.2.1 rfl
def zw_1102 := z_mt5 zlt_5_1.2.2.2.2.2.2.2.2.2.1 rfl
def zw_1103 := z_mt5 zlt_5_1.2.2.2.2.2.2.2.2.2.2.1 rfl
def zw_1104 := z_mt5 zlt_5_1.2.2.2.2.2.2.2.2.2.2.2.1 rfl
def zw_1105 := z_mt5 zlt_5_1.2.2.2.2.2.2.2.2.2.2.2.2.1 rfl
def zw_1106 := z_mt5 zlt_5_1.2.2.2.2.2.2.2.2.2.2.2.2.2.1 rfl
def zw_1107 := z_mt5 zlt_5_1.2.2.2.2.2.2.2.2.2.2.2.2.2.2.1 rfl
def zw_1108 := z_mt5 zlt_5_1.2.2.2.2.2.2.2.2.2.2.2.2.2.2.2 rfl
def zw_1109 := z_mt5 zlt_5_2.1 rfl
def zw_1110 := z_mt5 zlt_5_2.2.1 rfl
def zw_1111 := z_mt5 zlt_5_2.2.2.1 rfl
def zw_1112 := z_mt5 zlt_5_2.2.2.2.1 rfl
def zw_1113 := z_mt5 zlt_5_2.2.2.2.2.1 rfl
def zw_1114 := z_mt5 zlt_5_2.2.2.2.2.2.1 rfl
def zw_1115 := z_mt5 zlt_5_2.2.2.2.2.2.2.1 rfl
def zw_1116 := z_mt5 zlt_5_2.2.2.2.2.2.2.2.1 rfl
def zw_1118 := z_mt5 zlt_5_2.2.2.2.2.2.2.2.2.2.1 rfl
def zw_1119 := z_mt5 zlt_5_2.2.2.2.2.2.2.2.2.2.2.1 rfl
def zw_1120 := z_mt5 zlt_5_2.2.2.2.2.2.2.2.2.2.2.2.1 rfl
def zw_1122 := z_mt5 zlt_5_2.2.2.2.2.2.2.2.2.2.2.2.2.2.1 rfl
def zw_1123 := z_mt5 zlt_5_2.2.2.2.2.2.2.2.2.2.2.2.2.2.2.1 rfl
def zw_1124 := z_mt5 zlt_5_2.2.2.2.2.2.2.2.2.2.2.2.2.2.2.2 rfl
def zw_1125 := z_mt5 zlt_5_3.1 rfl
def zw_1126 := z_mt5 zlt_5_3.2.1 rfl
def zw_1127 := z_mt5 zlt_5_3.2.2.1 rfl
def zw_1128 := z_mt5 zlt_5_3.2.2.2.1 rfl
def zw_1129 := z_mt5 zlt_5_3.2.2.2.2.1 rfl
def zw_1130 := z_mt5 zlt_5_3.2.2.2.2.2.1 rfl
def zw_1131 := z_mt5 zlt_5_3.2.2.2.2.2.2.1 rfl
def zw_1133 := z_mt5 zlt_5_3.2.2.2.2.2.2.2.2.1 rfl
def zw_1134 := z_mt5 zlt_5_3.2.2.2.2.2.2.2.2.2.1 rfl
def zw_1136 := z_mt5 zlt_5_3.2.2.2.2.2.2.2.2.2.2.2.1 rfl
def zw_1137 := z_mt5 zlt_5_3.2.2.2.2.2.2.2.2.2.2.2.2.1 rfl
def zw_1138 := z_mt5 zlt_5_3.2.2.2.2.2.2.2.2.2.2.2.2.2.1 rfl
def zw_1139 := z_mt5 zlt_5_3.2.2.2.2.2.2.2.2.2.2.2.2.2.2.1 rfl
def zw_1140 := z_mt5 zlt_5_3.2.2.2.2.2.2.2.2.2.2.2.2.2.2.2 rfl
def zw_1141 := z_mt5 zlt_5_4.1 rfl
def zw_1142 := z_mt5 zlt_5_4.2.1 rfl
def zw_1143 := z_mt5 zlt_5_4.2.2.1 rfl
def zw_1144 := z_mt5 zlt_5_4.2.2.2.1 rfl
def zw_1145 := z_mt5 zlt_5_4.2.2.2.2.1 rfl
def zw_1146 := z_mt5 zlt_5_4.2.2.2.2.2.1 rfl
def zw_1147 := z_mt5 zlt_5_4.2.2.2.2.2.2.1 rfl
def zw_1148 := z_mt5 zlt_5_4.2.2.2.2.2.2.2.1 rfl
def zw_1149 := z_mt5 zlt_5_4.2.2.2.2.2.2.2.2.1 rfl
def zw_1151 := z_mt5 zlt_5_4.2.2.2.2.2.2.2.2.2.2.1 rfl
def zw_1153 := z_mt5 zlt_5_4.2.2.2.2.2.2.2.2.2.2.2.2.1 rfl
def zw_1154 := z_mt5 zlt_5_4.2.2.2.2.2.2.2.2.2.2.2.2.2.1 rfl
def zw_1156 := z_mt5 zlt_5_4.2.2.2.2.2.2.2.2.2.2.2.2.2.2.2 rfl
def zw_1157 := z_mt5 zlt_5_5.1 rfl
def zw_1158 := z_mt5 zlt_5_5.2.1 rfl
def zw_1159 := z_mt5 zlt_5_5.2.2.1 rfl
def zw_1160 := z_mt5 zlt_5_5.2.2.2.1 rfl
def zw_1161 := z_mt5 zlt_5_5.2.2.2.2.1 rfl
def zw_1162 := z_mt5 zlt_5_5.2.2.2.2.2.1 rfl
def zw_1163 := z_mt5 zlt_5_5.2.2.2.2.2.2.1 rfl
def zw_1164 := z_mt5 zlt_5_5.2.2.2.2.2.2.2.1 rfl
def zw_1165 := z_mt5 zlt_5_5.2.2.2.2.2.2.2.2.1 rfl
def zw_1166 := z_mt5 zlt_5_5.2.2.2.2.2.2.2.2.2.1 rfl
def zw_1167 := z_mt5 zlt_5_5.2.2.2.2.2.2.2.2.2.2.1 rfl
def zw_1168 := z_mt5 zlt_5_5.2.2.2.2.2.2.2.2.2.2.2.1 rfl
def zw_1169 := z_mt5 zlt_5_5.2.2.2.2.2.2.2.2.2.2.2.2.1 rfl
def zw_1170 := z_mt5 zlt_5_5.2.2.2.2.2.2.2.2.2.2.2.2.2.1 rfl
def zw_1171 := z_mt5 zlt_5_5.2.2.2.2.2.2.2.2.2.2.2.2.2.2.1 rfl
def zw_1172 := z_mt5 zlt_5_5.2.2.2.2.2.2.2.2.2.2.2.2.2.2.2 rfl
def zw_1173 := z_mt5 zlt_5_6.1 rfl
def zw_1174 := z_mt5 zlt_5_6.2.1 rfl
def zw_1175 := z_mt5 zlt_5_6.2.2.1 rfl
def zw_1177 := z_mt5 zlt_5_6.2.2.2.2.1 rfl
def zw_1179 := z_mt5 zlt_5_6.2.2.2.2.2.2.1 rfl
def zw_1180 := z_mt5 zlt_5_6.2.2.2.2.2.2.2.1 rfl
def zw_1181 := z_mt5 zlt_5_6.2.2.2.2.2.2.2.2.1 rfl
def zw_1182 := z_mt5 zlt_5_6.2.2.2.2.2.2.2.2.2.1 rfl
def zw_1183 := z_mt5 zlt_5_6.2.2.2.2.2.2.2.2.2.2.1 rfl
def zw_1185 := z_mt5 zlt_5_6.2.2.2.2.2.2.2.2.2.2.2.2.1 rfl
def zw_1186 := z_mt5 zlt_5_6.2.2.2.2.2.2.2.2.2.2.2.2.2.1 rfl
def zw_1187 := z_mt5 zlt_5_6.2.2.2.2.2.2.2.2.2.2.2.2.2.2.1 rfl
def zw_1189 := z_mt5 zlt_5_7.1 rfl
def zw_1190 := z_mt5 zlt_5_7.2.1 rfl
def zw_1191 := z_mt5 zlt_5_7.2.2.1 rfl
def zw_1192 := z_mt5 zlt_5_7.2.2.2.1 rfl
def zw_1193 := z_mt5 zlt_5_7.2.2.2.2.1 rfl
def zw_1194 := z_mt5 zlt_5_7.2.2.2.2.2.1 rfl
def zw_1196 := z_mt5 zlt_5_7.2.2.2.2.2.2.2.1 rfl
def zw_1197 := z_mt5 zlt_5_7.2.2.2.2.2.2.2.2.1 rfl
def zw_1199 := z_mt5 zlt_5_7.2.2.2.2.2.2.2.2.2.2.1 rfl
def zw_1201 := z_mt5 zlt_5_7.2.2.2.2.2.2.2.2.2.2.2.2.1 rfl
def zw_1202 := z_mt5 zlt_5_7.2.2.2.2.2.2.2.2.2.2.2.2.2.1 rfl
def zw_1203 := z_mt5 zlt_5_7.2.2.2.2.2.2.2.2.2.2.2.2.2.2.1 rfl
def zw_1205 := z_mt5 zlt_5_8.1 rfl
def zw_1206 := z_mt5 zlt_5_8.2.1 rfl
def zw_1207 := z_mt5 zlt_5_8.2.2.1 rfl
def zw_1209 := z_mt5 zlt_5_8.2.2.2.2.1 rfl
def zw_1210 := z_mt5 zlt_5_8.2.2.2.2.2.1 rfl
def zw_1211 := z_mt5 zlt_5_8.2.2.2.2.2.2.1 rfl
def zw_1213 := z_mt5 zlt_5_8.2.2.2.2.2.2.2.2.1 rfl
def zw_1214 := z_mt5 zlt_5_8.2.2.2.2.2.2.2.2.2.1 rfl
def zw_1215 := z_mt5 zlt_5_8.2.2.2.2.2.2.2.2.2.2.1 rfl
def zw_1216 := z_mt5 zlt_5_8.2.2.2.2.2.2.2.2.2.2.2.1 rfl
def zw_1217 := z_mt5 zlt_5_8.2.2.2.2.2.2.2.2.2.2.2.2.1 rfl
def zw_1218 := z_mt5 zlt_5_8.2.2.2.2.2.2.2.2.2.2.2.2.2.1 rfl
def zw_1220 := z_mt5 zlt_5_8.2.2.2.2.2.2.2.2.2.2.2.2.2.2.2 rfl
def zw_1221 := z_mt5 zlt_5_9.1 rfl
def zw_1222 := z_mt5 zlt_5_9.2.1 rfl
def zw_1224 := z_mt5 zlt_5_9.2.2.2.1 rfl
def zw_1225 := z_mt5 zlt_5_9.2.2.2.2.1 rfl
def zw_1232 := z_mt5 zlt_5_9.2.2.2.2.2.2.2.2.2.2.2.1 rfl
def zw_1234 := z_mt5 zlt_5_9.2.2.2.2.2.2.2.2.2.2.2.2.2.1 rfl
def zw_1235 := z_mt5 zlt_5_9.2.2.2.2.2.2.2.2.2.2.2.2.2.2.1 rfl
def zw_1242 := z_mt5 zlt_5_10.2.2.2.2.2.1 rfl
def zw_1244 := z_mt5 zlt_5_10.2.2.2.2.2.2.2.1 rfl
def zw_1245 := z_mt5 zlt_5_10.2.2.2.2.2.2.2.2.1 rfl
def zw_1246 := z_mt5 zlt_5_10.2.2.2.2.2.2.2.2.2.1 rfl
def zw_1248 := z_mt5 zlt_5_10.2.2.2.2.2.2.2.2.2.2.2.1 rfl
def zw_1249 := z_mt5 zlt_5_10.2.2.2.2.2.2.2.2.2.2.2.2.1 rfl
def zw_1250 := z_mt5 zlt_5_10.2.2.2.2.2.2.2.2.2.2.2.2.2.1 rfl
def zw_1252 := z_mt5 zlt_5_10.2.2.2.2.2.2.2.2.2.2.2.2.2.2.2 rfl
def zw_1253 := z_mt5 zlt_5_11.1 rfl
def zw_1254 := z_mt5 zlt_5_11.2.1 rfl
def zw_1256 := z_mt5 zlt_5_11.2.2.2.1 rfl
def zw_1257 := z_mt5 zlt_5_11.2.2.2.2.1 rfl
def zw_1258 := z_mt5 zlt_5_11.2.2.2.2.2.1 rfl
def zw_1260 := z_mt5 zlt_5_11.2.2.2.2.2.2.2.1 rfl
def zw_1261 := z_mt5 zlt_5_11.2.2.2.2.2.2.2.2.1 rfl
def zw_1262 := z_mt5 zlt_5_11.2.2.2.2.2.2.2.2.2.1 rfl
def zw_1264 := z_mt5 zlt_5_11.2.2.2.2.2.2.2.2.2.2.2.1 rfl
def zw_1265 := z_mt5 zlt_5_11.2.2.2.2.2.2.2.2.2.2.2.2.1 rfl
def zw_1266 := z_mt5 zlt_5_11.2.2.2.2.2.2.2.2.2.2.2.2.2.1 rfl
def zw_1268 := z_mt5 zlt_5_11.2.2.2.2.2.2.2.2.2.2.2.2.2.2.2 rfl
def zw_1269 := z_mt5 zlt_5_12.1 rfl
def zw_1270 := z_mt5 zlt_5_12.2.1 rfl
def zw_1272 := z_mt5 zlt_5_12.2.2.2.1 rfl
def zw_1273 := z_mt5 zlt_5_12.2.2.2.2.1 rfl
def zw_1274 := z_mt5 zlt_5_12.2.2.2.2.2.1 rfl
def zw_1276 := z_mt5 zlt_5_12.2.2.2.2.2.2.2.1 rfl
def zw_1277 := z_mt5 zlt_5_12.2.2.2.2.2.2.2.2.1 rfl
def zw_1278 := z_mt5 zlt_5_12.2.2.2.2.2.2.2.2.2.1 rfl
def zw_1280 := z_mt5 zlt_5_12.2.2.2.2.2.2.2.2.2.2.2.1 rfl
def zw_1281 := z_mt5 zlt_5_12.2.2.2.2.2.2.2.2.2.2.2.2.1 rfl
def zw_1282 := z_mt5 zlt_5_12.2.2.2.2.2.2.2.2.2.2.2.2.2.1 rfl
def zw_1284 := z_mt5 zlt_5_12.2.2.2.2.2.2.2.2.2.2.2.2.2.2.2 rfl
def zw_1285 := z_mt5 zlt_5_13.1 rfl
def zw_1286 := z_mt5 zlt_5_13.2.1 rfl
def zw_1288 := z_mt5 zlt_5_13.2.2.2.1 rfl
def zw_1289 := z_mt5 zlt_5_13.2.2.2.2.1 rfl
def zw_1290 := z_mt5 zlt_5_13.2.2.2.2.2.1 rfl
def zw_1292 := z_mt5 zlt_5_13.2.2.2.2.2.2.2.1 rfl
def zw_1293 := z_mt5 zlt_5_13.2.2.2.2.2.2.2.2.1 rfl
def zw_1294 := z_mt5 zlt_5_13.2.2.2.2.2.2.2.2.2.1 rfl
def zw_1296 := z_mt5 zlt_5_13.2.2.2.2.2.2.2.2.2.2.2.1 rfl
def zw_1297 := z_mt5 zlt_5_13.2.2.2.2.2.2.2.2.2.2.2.2.1 rfl
def zw_1298 := z_mt5 zlt_5_13.2.2.2.2.2.2.2.2.2.2.2.2.2.1 rfl
def zw_1300 := z_mt5 zlt_5_13.2.2.2.2.2.2.2.2.2.2.2.2.2.2.2 rfl
def zw_1301 := z_mt5 zlt_5_14.1 rfl
def zw_1302 := z_mt5 zlt_5_14.2.1 rfl
def zw_1304 := z_mt5 zlt_5_14.2.2.2.1 rfl
def zw_1305 := z_mt5 zlt_5_14.2.2.2.2.1 rfl
def zw_1306 := z_mt5 zlt_5_14.2.2.2.2.2.1 rfl
def zw_1308 := z_mt5 zlt_5_14.2.2.2.2.2.2.2.1 rfl
def zw_1309 := z_mt5 zlt_5_14.2.2.2.2.2.2.2.2.1 rfl
def zw_1310 := z_mt5 zlt_5_14.2.2.2.2.2.2.2.2.2.1 rfl
def zw_1312 := z_mt5 zlt_5_14.2.2.2.2.2.2.2.2.2.2.2.1 rfl
def zw_1313 := z_mt5 zlt_5_14.2.2.2.2.2.2.2.2.2.2.2.2.1 rfl
def zw_1314 := z_mt5 zlt_5_14.2.2.2.2.2.2.2.2.2.2.2.2.2.1 rfl
def zw_1316 := z_mt5 zlt_5_14.2.2.2.2.2.2.2.2.2.2.2.2.2.2.2 rfl
def zw_1317 := z_mt6 zlt_6_0.1 rfl
def zw_1318 := z_mt6 zlt_6_0.2.1 rfl
def zw_1320 := z_mt6 zlt_6_0.2.2.2.1 rfl
def zw_1321 := z_mt6 zlt_6_0.2.2.2.2.1 rfl
def zw_1322 := z_mt6 zlt_6_0.2.2.2.2.2.1 rfl
def zw_1324 := z_mt6 zlt_6_0.2.2.2.2.2.2.2.1 rfl
def zw_1325 := z_mt6 zlt_6_0.2.2.2.2.2.2.2.2.1 rfl
def zw_1326 := z_mt6 zlt_6_0.2.2.2.2.2.2.2.2.2.1 rfl
def zw_1328 := z_mt6 zlt_6_0.2.2.2.2.2.2.2.2.2.2.2.1 rfl
def zw_1329 := z_mt6 zlt_6_0.2.2.2.2.2.2.2.2.2.2.2.2.1 rfl
def zw_1330 := z_mt6 zlt_6_0.2.2.2.2.2.2.2.2.2.2.2.2.2.1 rfl
def zw_1332 := z_mt6 zlt_6_0.2.2.2.2.2.2.2.2.2.2.2.2.2.2.2 rfl
def zw_1333 := z_mt6 zlt_6_1.1 rfl
def zw_1334 := z_mt6 zlt_6_1.2.1 rfl
def zw_1336 := z_mt6 zlt_6_1.2.2.2.1 rfl
def zw_1337 := z_mt6 zlt_6_1.2.2.2.2.1 rfl
def zw_1338 := z_mt6 zlt_6_1.2.2.2.2.2.1 rfl
def zw_1340 := z_mt6 zlt_6_1.2.2.2.2.2.2.2.1 rfl
def zw_1341 := z_mt6 zlt_6_1.2.2.2.2.2.2.2.2.1 rfl
def zw_1342 := z_mt6 zlt_6_1.2.2.2.2.2.2.2.2.2.1 rfl
def zw_1344 := z_mt6 zlt_6_1.2.2.2.2.2.2.2.2.2.2.2.1 rfl
def zw_1345 := z_mt6 zlt_6_1.2.2.2.2.2.2.2.2.2.2.2.2.1 rfl
def zw_1346 := z_mt6 zlt_6_1.2.2.2.2.2.2.2.2.2.2.2.2.2.1 rfl
def zw_1348 := z_mt6 zlt_6_1.2.2.2.2.2.2.2.2.2.2.2.2.2.2.2 rfl
def zw_1349 := z_mt6 zlt_6_2.1 rfl
def zw_1350 := z_mt6 zlt_6_2.2.1 rfl
def zw_1352 := z_mt6 zlt_6_2.2.2.2.1 rfl
def zw_1353 := z_mt6 zlt_6_2.2.2.2.2.1 rfl
def zw_1354 := z_mt6 zlt_6_2.2.2.2.2.2.1 rfl
def zw_1356 := z_mt6 zlt_6_2.2.2.2.2.2.2.2.1 rfl
def zw_1357 := z_mt6 zlt_6_2.2.2.2.2.2.2.2.2.1 rfl
def zw_1358 := z_mt6 zlt_6_2.2.2.2.2.2.2.2.2.2.1 rfl
def zw_1360 := z_mt6 zlt_6_2.2.2.2.2.2.2.2.2.2.2.2.1 rfl
def zw_1361 := z_mt6 zlt_6_2.2.2.2.2.2.2.2.2.2.2.2.2.1 rfl
def zw_1362 := z_mt6 zlt_6_2.2.2.2.2.2.2.2.2.2.2.2.2.2.1 rfl
def zw_1364 := z_mt6 zlt_6_2.2.2.2.2.2.2.2.2.2.2.2.2.2.2.2 rfl
def zw_1365 := z_mt6 zlt_6_3.1 rfl
def zw_1366 := z_mt6 zlt_6_3.2.1 rfl
def zw_1368 := z_mt6 zlt_6_3.2.2.2.1 rfl
def zw_1369 := z_mt6 zlt_6_3.2.2.2.2.1 rfl
def zw_1370 := z_mt6 zlt_6_3.2.2.2.2.2.1 rfl
def zw_1372 := z_mt6 zlt_6_3.2.2.2.2.2.2.2.1 rfl
def zw_1373 := z_mt6 zlt_6_3.2.2.2.2.2.2.2.2.1 rfl
def zw_1374 := z_mt6 zlt_6_3.2.2.2.2.2.2.2.2.2.1 rfl
def zw_1376 := z_mt6 zlt_6_3.2.2.2.2.2.2.2.2.2.2.2.1 rfl
def zw_1377 := z_mt6 zlt_6_3.2.2.2.2.2.2.2.2.2.2.2.2.1 rfl
def zw_1378 := z_mt6 zlt_6_3.2.2.2.2.2.2.2.2.2.2.2.2.2.1 rfl
def zw_1380 := z_mt6 zlt_6_3.2.2.2.2.2.2.2.2.2.2.2.2.2.2.2 rfl
def zw_1381 := z_mt6 zlt_6_4.1 rfl
def zw_1382 := z_mt6 zlt_6_4.2.1 rfl
def zw_1384 := z_mt6 zlt_6_4.2.2.2.1 rfl
def zw_1385 := z_mt6 zlt_6_4.2.2.2.2.1 rfl
def zw_1386 := z_mt6 zlt_6_4.2.2.2.2.2.1 rfl
def zw_1388 := z_mt6 zlt_6_4.2.2.2.2.2.2.2.1 rfl
def zw_1389 := z_mt6 zlt_6_4.2.2.2.2.2.2.2.2.1 rfl
def zw_1390 := z_mt6 zlt_6_4.2.2.2.2.2.2.2.2.2.1 rfl
def zw_1392 := z_mt6 zlt_6_4.2.2.2.2.2.2.2.2.2.2.2.1 rfl
def zw_1393 := z_mt6 zlt_6_4.2.2.2.2.2.2.2.2.2.2.2.2.1 rfl
def zw_1394 := z_mt6 zlt_6_4.2.2.2.2.2.2.2.2.2.2.2.2.2.1 rfl
def zw_1396 := z_mt6 zlt_6_4.2.2.2.2.2.2.2.2.2.2.2.2.2.2.2 rfl
def zw_1397 := z_mt6 zlt_6_5.1 rfl
def zw_1398 := z_mt6 zlt_6_5.2.1 rfl
def zw_1400 := z_mt6 zlt_6_5.2.2.2.1 rfl
def zw_1401 := z_mt6 zlt_6_5.2.2.2.2.1 rfl
def zw_1402 := z_mt6 zlt_6_5.2.2.2.2.2.1 rfl
def zw_1404 := z_mt6 zlt_6_5.2.2.2.2.2.2.2.1 rfl
def zw_1405 := z_mt6 zlt_6_5.2.2.2.2.2.2.2.2.1 rfl
def zw_1406 := z_mt6 zlt_6_5.2.2.2.2.2.2.2.2.2.1 rfl
def zw_1408 := z_mt6 zlt_6_5.2.2.2.2.2.2.2.2.2.2.2.1 rfl
def zw_1409 := z_mt6 zlt_6_5.2.2.2.2.2.2.2.2.2.2.2.2.1 rfl
def zw_1410 := z_mt6 zlt_6_5.2.2.2.2.2.2.2.2.2.2.2.2.2.1 rfl
def zw_1412 := z_mt6 zlt_6_5.2.2.2.2.2.2.2.2.2.2.2.2.2.2.2 rfl
def zw_1413 := z_mt6 zlt_6_6.1 rfl
def zw_1414 := z_mt6 zlt_6_6.2.1 rfl
def zw_1416 := z_mt6 zlt_6_6.2.2.2.1 rfl
def zw_1417 := z_mt6 zlt_6_6.2.2.2.2.1 rfl
def zw_1418 := z_mt6 zlt_6_6.2.2.2.2.2.1 rfl
def zw_1420 := z_mt6 zlt_6_6.2.2.2.2.2.2.2.1 rfl
def zw_1421 := z_mt6 zlt_6_6.2.2.2.2.2.2.2.2.1 rfl
def zw_1422 := z_mt6 zlt_6_6.2.2.2.2.2.2.2.2.2.1 rfl
def zw_1424 := z_mt6 zlt_6_6.2.2.2.2.2.2.2.2.2.2.2.1 rfl
def zw_1425 := z_mt6 zlt_6_6.2.2.2.2.2.2.2.2.2.2.2.2.1 rfl
def zw_1426 := z_mt6 zlt_6_6.2.2.2.2.2.2.2.2.2.2.2.2.2.1 rfl
def zw_1428 := z_mt6 zlt_6_6.2.2.2.2.2.2.2.2.2.2.2.2.2.2.2 rfl
def zw_1429 := z_mt6 zlt_6_7.1 rfl
def zw_1430 := z_mt6 zlt_6_7.2.1 rfl
def zw_1432 := z_mt6 zlt_6_7.2.2.2.1 rfl
def zw_1433 := z_mt6 zlt_6_7.2.2.2.2.1 rfl
def zw_1434 := z_mt6 zlt_6_7.2.2.2.2.2.1 rfl
def zw_1435 := z_mt6 zlt_6_7.2.2.2.2.2.2.1 rfl
def zw_1436 := z_mt6 zlt_6_7.2.2.2.2.2.2.2.1 rfl
def zw_1437 := z_mt6 zlt_6_7.2.2.2.2.2.2.2.2.1 rfl
def zw_1438 := z_mt6 zlt_6_7.2.2.2.2.2.2.2.2.2.1 rfl
def zw_1439 := z_mt6 zlt_6_7.2.2.2.2.2.2.2.2.2.2.1 rfl
def zw_1440 := z_mt6 zlt_6_7.2.2.2.2.2.2.2.2.2.2.2.1 rfl
def zw_1441 := z_mt6 zlt_6_7.2.2.2.2.2.2.2.2.2.2.2.2.1 rfl
def zw_1442 := z_mt6 zlt_6_7.2.2.2.2.2.2.2.2.2.2.2.2.2.1 rfl
def zw_1443 := z_mt6 zlt_6_7.2.2.2.2.2.2.2.2.2.2.2.2.2.2.1 rfl
def zw_1444 := z_mt6 zlt_6_7.2.2.2.2.2.2.2.2.2.2.2.2.2.2.2 rfl
def zw_1445 := z_mt6 zlt_6_8.1 rfl
def zw_1446 := z_mt6 zlt_6_8.2.1 rfl
def zw_1447 := z_mt6 zlt_6_8.2.2.1 rfl
def zw_1448 := z_mt6 zlt_6_8.2.2.2.1 rfl
def zw_1449 := z_mt6 zlt_6_8.2.2.2.2.1 rfl
def zw_1450 := z_mt6 zlt_6_8.2.2.2.2.2.1 rfl
def zw_1451 := z_mt6 zlt_6_8.2.2.2.2.2.2.1 rfl
def zw_1452 := z_mt6 zlt_6_8.2.2.2.2.2.2.2.1 rfl
def zw_1453 := z_mt6 zlt_6_8.2.2.2.2.2.2.2.2.1 rfl
def zw_1454 := z_mt6 zlt_6_8.2.2.2.2.2.2.2.2.2.1 rfl
def zw_1455 := z_mt6 zlt_6_8.2.2.2.2.2.2.2.2.2.2.1 rfl
def zw_1456 := z_mt6 zlt_6_8.2.2.2.2.2.2.2.2.2.2.2.1 rfl
def zw_1457 := z_mt6 zlt_6_8.2.2.2.2.2.2.2.2.2.2.2.2.1 rfl
def zw_1507 := z_mt6 zlt_6_11.2.2.2.2.2.2.2.2.2.2.2.2.2.2.1 rfl
def zw_1508 := z_mt6 zlt_6_11.2.2.2.2.2.2.2.2.2.2.2.2.2.2.2 rfl
def zw_1509 := z_mt6 zlt_6_12.1 rfl
def zw_1510 := z_mt6 zlt_6_12.2.1 rfl
def zw_1511 := z_mt6 zlt_6_12.2.2.1 rfl
def zw_1512 := z_mt6 zlt_6_12.2.2.2.1 rfl
def zw_1514 := z_mt6 zlt_6_12.2.2.2.2.2.1 rfl
def zw_1515 := z_mt6 zlt_6_12.2.2.2.2.2.2.1 rfl
def zw_1516 := z_mt6 zlt_6_12.2.2.2.2.2.2.2.1 rfl
def zw_1517 := z_mt6 zlt_6_12.2.2.2.2.2.2.2.2.1 rfl
def zw_1518 := z_mt6 zlt_6_12.2.2.2.2.2.2.2.2.2.1 rfl
def zw_1519 := z_mt6 zlt_6_12.2.2.2.2.2.2.2.2.2.2.1 rfl
def zw_1520 := z_mt6 zlt_6_12.2.2.2.2.2.2.2.2.2.2.2.1 rfl
def zw_1522 := z_mt6 zlt_6_12.2.2.2.2.2.2.2.2.2.2.2.2.2.1 rfl
def zw_1523 := z_mt6 zlt_6_12.2.2.2.2.2.2.2.2.2.2.2.2.2.2.1 rfl
def zw_1524 := z_mt6 zlt_6_12.2.2.2.2.2.2.2.2.2.2.2.2.2.2.2 rfl
def zw_1525 := z_mt6 zlt_6_13.1 rfl
def zw_1526 := z_mt6 zlt_6_13.2.1 rfl
def zw_1527 := z_mt6 zlt_6_13.2.2.1 rfl
def zw_1528 := z_mt6 zlt_6_13.2.2.2.1 rfl
def zw_1530 := z_mt6 zlt_6_13.2.2.2.2.2.1 rfl
def zw_1531 := z_mt6 zlt_6_13.2.2.2.2.2.2.1 rfl
def zw_1532 := z_mt6 zlt_6_13.2.2.2.2.2.2.2.1 rfl
def zw_1534 := z_mt6 zlt_6_13.2.2.2.2.2.2.2.2.2.1 rfl
def zw_1535 := z_mt6 zlt_6_13.2.2.2.2.2.2.2.2.2.2.1 rfl
def zw_1536 := z_mt6 zlt_6_13.2.2.2.2.2.2.2.2.2.2.2.1 rfl
def zw_1537 := z_mt6 zlt_6_13.2.2.2.2.2.2.2.2.2.2.2.2.1 rfl
def zw_1538 := z_mt6 zlt_6_13.2.2.2.2.2.2.2.2.2.2.2.2.2.1 rfl
def zw_1539 := z_mt6 zlt_6_13.2.2.2.2.2.2.2.2.2.2.2.2.2.2.1 rfl
def zw_1540 := z_mt6 zlt_6_13.2.2.2.2.2.2.2.2.2.2.2.2.2.2.2 rfl
def zw_1542 := z_mt6 zlt_6_14.2.1 rfl
def zw_1543 := z_mt6 zlt_6_14.2.2.1 rfl
def zw_1544 := z_mt6 zlt_6_14.2.2.2.1 rfl
def zw_1545 := z_mt6 zlt_6_14.2.2.2.2.1 rfl
def zw_1547 := z_mt6 zlt_6_14.2.2.2.2.2.2.1 rfl
def zw_1548 := z_mt6 zlt_6_14.2.2.2.2.2.2.2.1 rfl
def zw_1549 := z_mt6 zlt_6_14.2.2.2.2.2.2.2.2.1 rfl
def zw_1550 := z_mt6 zlt_6_14.2.2.2.2.2.2.2.2.2.1 rfl
def zw_1551 := z_mt6 zlt_6_14.2.2.2.2.2.2.2.2.2.2.1 rfl
def zw_1552 := z_mt6 zlt_6_14.2.2.2.2.2.2.2.2.2.2.2.1 rfl
def zw_1553 := z_mt6 zlt_6_14.2.2.2.2.2.2.2.2.2.2.2.2.1 rfl
def zw_1554 := z_mt6 zlt_6_14.2.2.2.2.2.2.2.2.2.2.2.2.2.1 rfl
def zw_1555 := z_mt6 zlt_6_14.2.2.2.2.2.2.2.2.2.2.2.2.2.2.1 rfl
def zw_1556 := z_mt6 zlt_6_14.2.2.2.2.2.2.2.2.2.2.2.2.2.2.2 rfl
def zw_1557 := z_mt7 zlt_7_0.1 rfl
def zw_1559 := z_mt7 zlt_7_0.2.2.1 rfl
def zw_1560 := z_mt7 zlt_7_0.2.2.2.1 rfl
def zw_1561 := z_mt7 zlt_7_0.2.2.2.2.1 rfl
def zw_1562 := z_mt7 zlt_7_0.2.2.2.2.2.1 rfl
def zw_1563 := z_mt7 zlt_7_0.2.2.2.2.2.2.1 rfl
def zw_1564 := z_mt7 zlt_7_0.2.2.2.2.2.2.2.1 rfl
def zw_1565 := z_mt7 zlt_7_0.2.2.2.2.2.2.2.2.1 rfl
def zw_1566 := z_mt7 zlt_7_0.2.2.2.2.2.2.2.2.2.1 rfl
def zw_1567 := z_mt7 zlt_7_0.2.2.2.2.2.2.2.2.2.2.1 rfl
def zw_1568 := z_mt7 zlt_7_0.2.2.2.2.2.2.2.2.2.2.2.1 rfl
def zw_1569 := z_mt7 zlt_7_0.2.2.2.2.2.2.2.2.2.2.2.2.1 rfl
def zw_1570 := z_mt7 zlt_7_0.2.2.2.2.2.2.2.2.2.2.2.2.2.1 rfl
def zw_1571 := z_mt7 zlt_7_0.2.2.2.2.2.2.2.2.2.2.2.2.2.2.1 rfl
def zw_1572 := z_mt7 zlt_7_0.2.2.2.2.2.2.2.2.2.2.2.2.2.2.2 rfl
def zw_1573 := z_mt7 zlt_7_1.1 rfl
def zw_1574 := z_mt7 zlt_7_1.2.1 rfl
def zw_1575 := z_mt7 zlt_7_1.2.2.1 rfl
def zw_1576 := z_mt7 zlt_7_1.2.2.2.1 rfl
def zw_1577 := z_mt7 zlt_7_1.2.2.2.2.1 rfl
def zw_1578 := z_mt7 zlt_7_1.2.2.2.2.2.1 rfl
def zw_1579 := z_mt7 zlt_7_1.2.2.2.2.2.2.1 rfl
def zw_1580 := z_mt7 zlt_7_1.2.2.2.2.2.2.2.1 rfl
def zw_1581 := z_mt7 zlt_7_1.2.2.2.2.2.2.2.2.1 rfl
def zw_1582 := z_mt7 zlt_7_1.2.2.2.2.2.2.2.2.2.1 rfl
def zw_1583 := z_mt7 zlt_7_1.2.2.2.2.2.2.2.2.2.2.1 rfl
def zw_1584 := z_mt7 zlt_7_1.2.2.2.2.2.2.2.2.2.2.2.1 rfl
def zw_1585 := z_mt7 zlt_7_1.2.2.2.2.2.2.2.2.2.2.2.2.1 rfl
def zw_1586 := z_mt7 zlt_7_1.2.2.2.2.2.2.2.2.2.2.2.2.2.1 rfl
def zw_1587 := z_mt7 zlt_7_1.2.2.2.2.2.2.2.2.2.2.2.2.2.2.1 rfl
def zw_1588 := z_mt7 zlt_7_1.2.2.2.2.2.2.2.2.2.2.2.2.2.2.2 rfl
def zw_1589 := z_mt7 zlt_7_2.1 rfl
def zw_1590 := z_mt7 zlt_7_2.2.1 rfl
def zw_1591 := z_mt7 zlt_7_2.2.2.1 rfl
def zw_1592 := z_mt7 zlt_7_2.2.2.2.1 rfl
def zw_1593 := z_mt7 zlt_7_2.2.2.2.2.1 rfl
def zw_1594 := z_mt7 zlt_7_2.2.2.2.2.2.1 rfl
def zw_1595 := z_mt7 zlt_7_2.2.2.2.2.2.2.1 rfl
def zw_1596 := z_mt7 zlt_7_2.2.2.2.2.2.2.2.1 rfl
def zw_1597 := z_mt7 zlt_7_2.2.2.2.2.2.2.2.2.1 rfl
def zw_1599 := z_mt7 zlt_7_2.2.2.2.2.2.2.2.2.2.2.1 rfl
def zw_1600 := z_mt7 zlt_7_2.2.2.2.2.2.2.2.2.2.2.2.1 rfl
def zw_1601 := z_mt7 zlt_7_2.2.2.2.2.2.2.2.2.2.2.2.2.1 rfl
def zw_1602 := z_mt7 zlt_7_2.2.2.2.2.2.2.2.2.2.2.2.2.2.1 rfl
def zw_1603 := z_mt7 zlt_7_2.2.2.2.2.2.2.2.2.2.2.2.2.2.2.1 rfl
def zw_1604 := z_mt7 zlt_7_2.2.2.2.2.2.2.2.2.2.2.2.2.2.2.2 rfl
def zw_1605 := z_mt7 zlt_7_3.1 rfl
def zw_1606 := z_mt7 zlt_7_3.2.1 rfl
def zw_1607 := z_mt7 zlt_7_3.2.2.1 rfl
def zw_1608 := z_mt7 zlt_7_3.2.2.2.1 rfl
def zw_1609 := z_mt7 zlt_7_3.2.2.2.2.1 rfl
def zw_1610 := z_mt7 zlt_7_3.2.2.2.2.2.1 rfl
def zw_1611 := z_mt7 zlt_7_3.2.2.2.2.2.2.1 rfl
def zw_1612 := z_mt7 zlt_7_3.2.2.2.2.2.2.2.1 rfl
def zw_1613 := z_mt7 zlt_7_3.2.2.2.2.2.2.2.2.1 rfl
def zw_1614 := z_mt7 zlt_7_3.2.2.2.2.2.2.2.2.2.1 rfl
def zw_1615 := z_mt7 zlt_7_3.2.2.2.2.2.2.2.2.2.2.1 rfl
def zw_1616 := z_mt7 zlt_7_3.2.2.2.2.2.2.2.2.2.2.2.1 rfl
def zw_1617 := z_mt7 zlt_7_3.2.2.2.2.2.2.2.2.2.2.2.2.1 rfl
def zw_1618 := z_mt7 zlt_7_3.2.2.2.2.2.2.2.2.2.2.2.2.2.1 rfl
def zw_1619 := z_mt7 zlt_7_3.2.2.2.2.2.2.2.2.2.2.2.2.2.2.1 rfl
def zw_1620 := z_mt7 zlt_7_3.2.2.2.2.2.2.2.2.2.2.2.2.2.2.2 rfl
def zw_1621 := z_mt7 zlt_7_4.1 rfl
def zw_1622 := z_mt7 zlt_7_4.2.1 rfl
def zw_1623 := z_mt7 zlt_7_4.2.2.1 rfl
def zw_1624 := z_mt7 zlt_7_4.2.2.2.1 rfl
def zw_1625 := z_mt7 zlt_7_4.2.2.2.2.1 rfl
def zw_1626 := z_mt7 zlt_7_4.2.2.2.2.2.1 rfl
def zw_1627 := z_mt7 zlt_7_4.2.2.2.2.2.2.1 rfl
def zw_1628 := z_mt7 zlt_7_4.2.2.2.2.2.2.2.1 rfl
def zw_1629 := z_mt7 zlt_7_4.2.2.2.2.2.2.2.2.1 rfl
def zw_1630 := z_mt7 zlt_7_4.2.2.2.2.2.2.2.2.2.1 rfl
def zw_1631 := z_mt7 zlt_7_4.2.2.2.2.2.2.2.2.2.2.1 rfl
def zw_1632 := z_mt7 zlt_7_4.2.2.2.2.2.2.2.2.2.2.2.1 rfl
def zw_1633 := z_mt7 zlt_7_4.2.2.2.2.2.2.2.2.2.2.2.2.1 rfl
def zw_1635 := z_mt7 zlt_7_4.2.2.2.2.2.2.2.2.2.2.2.2.2.2.1 rfl
def zw_1636 := z_mt7 zlt_7_4.2.2.2.2.2.2.2.2.2.2.2.2.2.2.2 rfl
def zw_1637 := z_mt7 zlt_7_5.1 rfl
def zw_1638 := z_mt7 zlt_7_5.2.1 rfl
def zw_1639 := z_mt7 zlt_7_5.2.2.1 rfl
def zw_1640 := z_mt7 zlt_7_5.2.2.2.1 rfl
def zw_1641 := z_mt7 zlt_7_5.2.2.2.2.1 rfl
def zw_1642 := z_mt7 zlt_7_5.2.2.2.2.2.1 rfl
def zw_1643 := z_mt7 zlt_7_5.2.2.2.2.2.2.1 rfl
def zw_1644 := z_mt7 zlt_7_5.2.2.2.2.2.2.2.1 rfl
def zw_1645 := z_mt7 zlt_7_5.2.2.2.2.2.2.2.2.1 rfl
def zw_1646 := z_mt7 zlt_7_5.2.2.2.2.2.2.2.2.2.1 rfl
def zw_1647 := z_mt7 zlt_7_5.2.2.2.2.2.2.2.2.2.2.1 rfl
def zw_1648 := z_mt7 zlt_7_5.2.2.2.2.2.2.2.2.2.2.2.1 rfl
def zw_1649 := z_mt7 zlt_7_5.2.2.2.2.2.2.2.2.2.2.2.2.1 rfl
def zw_1651 := z_mt7 zlt_7_5.2.2.2.2.2.2.2.2.2.2.2.2.2.2.1 rfl
def zw_1652 := z_mt7 zlt_7_5.2.2.2.2.2.2.2.2.2.2.2.2.2.2.2 rfl
def zw_1653 := z_mt7 zlt_7_6.1 rfl
def zw_1654 := z_mt7 zlt_7_6.2.1 rfl
def zw_1655 := z_mt7 zlt_7_6.2.2.1 rfl
def zw_1656 := z_mt7 zlt_7_6.2.2.2.1 rfl
def zw_1657 := z_mt7 zlt_7_6.2.2.2.2.1 rfl
def zw_1658 := z_mt7 zlt_7_6.2.2.2.2.2.1 rfl
def zw_1659 := z_mt7 zlt_7_6.2.2.2.2.2.2.1 rfl
def zw_1660 := z_mt7 zlt_7_6.2.2.2.2.2.2.2.1 rfl
def zw_1661 := z_mt7 zlt_7_6.2.2.2.2.2.2.2.2.1 rfl
def zw_1663 := z_mt7 zlt_7_6.2.2.2.2.2.2.2.2.2.2.1 rfl
def zw_1664 := z_mt7 zlt_7_6.2.2.2.2.2.2.2.2.2.2.2.1 rfl
def zw_1665 := z_mt7 zlt_7_6.2.2.2.2.2.2.2.2.2.2.2.2.1 rfl
def zw_1666 := z_mt7 zlt_7_6.2.2.2.2.2.2.2.2.2.2.2.2.2.1 rfl
def zw_1667 := z_mt7 zlt_7_6.2.2.2.2.2.2.2.2.2.2.2.2.2.2.1 rfl
def zw_1668 := z_mt7 zlt_7_6.2.2.2.2.2.2.2.2.2.2.2.2.2.2.2 rfl
def zw_1669 := z_mt7 zlt_7_7.1 rfl
def zw_1670 := z_mt7 zlt_7_7.2.1 rfl
def zw_1671 := z_mt7 zlt_7_7.2.2.1 rfl
def zw_1672 := z_mt7 zlt_7_7.2.2.2.1 rfl
def zw_1673 := z_mt7 zlt_7_7.2.2.2.2.1 rfl
def zw_1675 := z_mt7 zlt_7_7.2.2.2.2.2.2.1 rfl
def zw_1676 := z_mt7 zlt_7_7.2.2.2.2.2.2.2.1 rfl
def zw_1677 := z_mt7 zlt_7_7.2.2.2.2.2.2.2.2.1 rfl
def zw_1679 := z_mt7 zlt_7_7.2.2.2.2.2.2.2.2.2.2.1 rfl
def zw_1680 := z_mt7 zlt_7_7.2.2.2.2.2.2.2.2.2.2.2.1 rfl
def zw_1681 := z_mt7 zlt_7_7.2.2.2.2.2.2.2.2.2.2.2.2.1 rfl
def zw_1682 := z_mt7 zlt_7_7.2.2.2.2.2.2.2.2.2.2.2.2.2.1 rfl
def zw_1683 := z_mt7 zlt_7_7.2.2.2.2.2.2.2.2.2.2.2.2.2.2.1 rfl
def zw_1684 := z_mt7 zlt_7_7.2.2.2.2.2.2.2.2.2.2.2.2.2.2.2 rfl
def zw_1685 := z_mt7 zlt_7_8.1 rfl
def zw_1686 := z_mt7 zlt_7_8.2.1 rfl
def zw_1687 := z_mt7 zlt_7_8.2.2.1 rfl
def zw_1688 := z_mt7 zlt_7_8.2.2.2.1 rfl
def zw_1689 := z_mt7 zlt_7_8.2.2.2.2.1 rfl
def zw_1690 := z_mt7 zlt_7_8.2.2.2.2.2.1 rfl
def zw_1691 := z_mt7 zlt_7_8.2.2.2.2.2.2.1 rfl
def zw_1692 := z_mt7 zlt_7_8.2.2.2.2.2.2.2.1 rfl
def zw_1693 := z_mt7 zlt_7_8.2.2.2.2.2.2.2.2.1 rfl
def zw_1694 := z_mt7 zlt_7_8.2.2.2.2.2.2.2.2.2.1 rfl
def zw_1695 := z_mt7 zlt_7_8.2.2.2.2.2.2.2.2.2.2.1 rfl
def zw_1696 := z_mt7 zlt_7_8.2.2.2.2.2.2.2.2.2.2.2.1 rfl
def zw_1697 := z_mt7 zlt_7_8.2.2.2.2.2.2.2.2.2.2.2.2.1 rfl
def zw_1698 := z_mt7 zlt_7_8.2.2.2.2.2.2.2.2.2.2.2.2.2.1 rfl
def zw_1699 := z_mt7 zlt_7_8.2.2.2.2.2.2.2.2.2.2.2.2.2.2.1 rfl
def zw_1700 := z_mt7 zlt_7_8.2.2.2.2.2.2.2.2.2.2.2.2.2.2.2 rfl
def zw_1701 := z_mt7 zlt_7_9.1 rfl
def zw_1703 := z_mt7 zlt_7_9.2.2.1 rfl
def zw_1704 := z_mt7 zlt_7_9.2.2.2.1 rfl
def zw_1705 := z_mt7 zlt_7_9.2.2.2.2.1 rfl
def zw_1707 := z_mt7 zlt_7_9.2.2.2.2.2.2.1 rfl
def zw_1708 := z_mt7 zlt_7_9.2.2.2.2.2.2.2.1 rfl
def zw_1709 := z_mt7 zlt_7_9.2.2.2.2.2.2.2.2.1 rfl
def zw_1711 := z_mt7 zlt_7_9.2.2.2.2.2.2.2.2.2.2.1 rfl
def zw_1712 := z_mt7 zlt_7_9.2.2.2.2.2.2.2.2.2.2.2.1 rfl
def zw_1713 := z_mt7 zlt_7_9.2.2.2.2.2.2.2.2.2.2.2.2.1 rfl
def zw_1714 := z_mt7 zlt_7_9.2.2.2.2.2.2.2.2.2.2.2.2.2.1 rfl
def zw_1715 := z_mt7 zlt_7_9.2.2.2.2.2.2.2.2.2.2.2.2.2.2.1 rfl
def zw_1716 := z_mt7 zlt_7_9.2.2.2.2.2.2.2.2.2.2.2.2.2.2.2 rfl
def zw_1717 := z_mt7 zlt_7_10.1 rfl
def zw_1718 := z_mt7 zlt_7_10.2.1 rfl
def zw_1719 := z_mt7 zlt_7_10.2.2.1 rfl
def zw_1720 := z_mt7 zlt_7_10.2.2.2.1 rfl
def zw_1721 := z_mt7 zlt_7_10.2.2.2.2.1 rfl
def zw_1722 := z_mt7 zlt_7_10.2.2.2.2.2.1 rfl
def zw_1723 := z_mt7 zlt_7_10.2.2.2.2.2.2.1 rfl
def zw_1724 := z_mt7 zlt_7_10.2.2.2.2.2.2.2.1 rfl
def zw_1725 := z_mt7 zlt_7_10.2.2.2.2.2.2.2.2.1 rfl
def zw_1726 := z_mt7 zlt_7_10.2.2.2.2.2.2.2.2.2.1 rfl
def zw_1727 := z_mt7 zlt_7_10.2.2.2.2.2.2.2.2.2.2.1 rfl
def zw_1728 := z_mt7 zlt_7_10.2.2.2.2.2.2.2.2.2.2.2.1 rfl
def zw_1729 := z_mt7 zlt_7_10.2.2.2.2.2.2.2.2.2.2.2.2.1 rfl
def zw_1731 := z_mt7 zlt_7_10.2.2.2.2.2.2.2.2.2.2.2.2.2.2.1 rfl
def zw_1732 := z_mt7 zlt_7_10.2.2.2.2.2.2.2.2.2.2.2.2.2.2.2 rfl
def zw_1733 := z_mt7 zlt_7_11.1 rfl
def zw_1734 := z_mt7 zlt_7_11.2.1 rfl
def zw_1735 := z_mt7 zlt_7_11.2.2.1 rfl
def zw_1736 := z_mt7 zlt_7_11.2.2.2.1 rfl
def zw_1737 := z_mt7 zlt_7_11.2.2.2.2.1 rfl
def zw_1738 := z_mt7 zlt_7_11.2.2.2.2.2.1 rfl
def zw_1739 := z_mt7 zlt_7_11.2.2.2.2.2.2.1 rfl
def zw_1740 := z_mt7 zlt_7_11.2.2.2.2.2.2.2.1 rfl
def zw_1741 := z_mt7 zlt_7_11.2.2.2.2.2.2.2.2.1 rfl
def zw_1742 := z_mt7 zlt_7_11.2.2.2.2.2.2.2.2.2.1 rfl
def zw_1743 := z_mt7 zlt_7_11.2.2.2.2.2.2.2.2.2.2.1 rfl
def zw_1744 := z_mt7 zlt_7_11.2.2.2.2.2.2.2.2.2.2.2.1 rfl
def zw_1745 := z_mt7 zlt_7_11.2.2.2.2.2.2.2.2.2.2.2.2.1 rfl
def zw_1747 := z_mt7 zlt_7_11.2.2.2.2.2.2.2.2.2.2.2.2.2.2.1 rfl
def zw_1748 := z_mt7 zlt_7_11.2.2.2.2.2.2.2.2.2.2.2.2.2.2.2 rfl
def zw_1749 := z_mt7 zlt_7_12.1 rfl
def zw_1750 := z_mt7 zlt_7_12.2.1 rfl
def zw_1751 := z_mt7 zlt_7_12.2.2.1 rfl
def zw_1752 := z_mt7 zlt_7_12.2.2.2.1 rfl
def zw_1753 := z_mt7 zlt_7_12.2.2.2.2.1 rfl
def zw_1755 := z_mt7 zlt_7_12.2.2.2.2.2.2.1 rfl
def zw_1756 := z_mt7 zlt_7_12.2.2.2.2.2.2.2.1 rfl
def zw_1757 := z_mt7 zlt_7_12.2.2.2.2.2.2.2.2.1 rfl
def zw_1758 := z_mt7 zlt_7_12.2.2.2.2.2.2.2.2.2.1 rfl
def zw_1759 := z_mt7 zlt_7_12.2.2.2.2.2.2.2.2.2.2.1 rfl
def zw_1760 := z_mt7 zlt_7_12.2.2.2.2.2.2.2.2.2.2.2.1 rfl
def zw_1761 := z_mt7 zlt_7_12.2.2.2.2.2.2.2.2.2.2.2.2.1 rfl
def zw_1762 := z_mt7 zlt_7_12.2.2.2.2.2.2.2.2.2.2.2.2.2.1 rfl
def zw_1763 := z_mt7 zlt_7_12.2.2.2.2.2.2.2.2.2.2.2.2.2.2.1 rfl
def zw_1764 := z_mt7 zlt_7_12.2.2.2.2.2.2.2.2.2.2.2.2.2.2.2 rfl
def zw_1765 := z_mt7 zlt_7_13.1 rfl
def zw_1767 := z_mt7 zlt_7_13.2.2.1 rfl
def zw_1768 := z_mt7 zlt_7_13.2.2.2.1 rfl
def zw_1769 := z_mt7 zlt_7_13.2.2.2.2.1 rfl
def zw_1770 := z_mt7 zlt_7_13.2.2.2.2.2.1 rfl
def zw_1771 := z_mt7 zlt_7_13.2.2.2.2.2.2.1 rfl
def zw_1772 := z_mt7 zlt_7_13.2.2.2.2.2.2.2.1 rfl
def zw_1773 := z_mt7 zlt_7_13.2.2.2.2.2.2.2.2.1 rfl
def zw_1774 := z_mt7 zlt_7_13.2.2.2.2.2.2.2.2.2.1 rfl
def zw_1775 := z_mt7 zlt_7_13.2.2.2.2.2.2.2.2.2.2.1 rfl
def zw_1776 := z_mt7 zlt_7_13.2.2.2.2.2.2.2.2.2.2.2.1 rfl
def zw_1777 := z_mt7 zlt_7_13.2.2.2.2.2.2.2.2.2.2.2.2.1 rfl
def zw_1779 := z_mt7 zlt_7_13.2.2.2.2.2.2.2.2.2.2.2.2.2.2.1 rfl
def zw_1780 := z_mt7 zlt_7_13.2.2.2.2.2.2.2.2.2.2.2.2.2.2.2 rfl
def zw_1781 := z_mt7 zlt_7_14.1 rfl
def zw_1782 := z_mt7 zlt_7_14.2.1 rfl
def zw_1783 := z_mt7 zlt_7_14.2.2.1 rfl
def zw_1784 := z_mt7 zlt_7_14.2.2.2.1 rfl
def zw_1785 := z_mt7 zlt_7_14.2.2.2.2.1 rfl
def zw_1787 := z_mt7 zlt_7_14.2.2.2.2.2.2.1 rfl
def zw_1788 := z_mt7 zlt_7_14.2.2.2.2.2.2.2.1 rfl
def zw_1789 := z_mt7 zlt_7_14.2.2.2.2.2.2.2.2.1 rfl
def zw_1790 := z_mt7 zlt_7_14.2.2.2.2.2.2.2.2.2.1 rfl
def zw_1791 := z_mt7 zlt_7_14.2.2.2.2.2.2.2.2.2.2.1 rfl
def zw_1792 := z_mt7 zlt_7_14.2.2.2.2.2.2.2.2.2.2.2.1 rfl
def zw_1793 := z_mt7 zlt_7_14.2.2.2.2.2.2.2.2.2.2.2.2.1 rfl
def zw_1794 := z_mt7 zlt_7_14.2.2.2.2.2.2.2.2.2.2.2.2.2.1 rfl
def zw_1795 := z_mt7 zlt_7_14.2.2.2.2.2.2.2.2.2.2.2.2.2.2.1 rfl
def zw_1796 := z_mt7 zlt_7_14.2.2.2.2.2.2.2.2.2.2.2.2.2.2.2 rfl
def zw_1797 := z_mt8 zlt_8_0.1 rfl
def zw_1798 := z_mt8 zlt_8_0.2.1 rfl
def zw_1799 := z_mt8 zlt_8_0.2.2.1 rfl
def zw_1800 := z_mt8 zlt_8_0.2.2.2.1 rfl
def zw_1801 := z_mt8 zlt_8_0.2.2.2.2.1 rfl
def zw_1802 := z_mt8 zlt_8_0.2.2.2.2.2.1 rfl
def zw_1803 := z_mt8 zlt_8_0.2.2.2.2.2.2.1 rfl
def zw_1804 := z_mt8 zlt_8_0.2.2.2.2.2.2.2.1 rfl
def zw_1805 := z_mt8 zlt_8_0.2.2.2.2.2.2.2.2.1 rfl
def zw_1806 := z_mt8 zlt_8_0.2.2.2.2.2.2.2.2.2.1 rfl
def zw_1807 := z_mt8 zlt_8_0.2.2.2.2.2.2.2.2.2.2.1 rfl
def zw_1808 := z_mt8 zlt_8_0.2.2.2.2.2.2.2.2.2.2.2.1 rfl
def zw_1809 := z_mt8 zlt_8_0.2.2.2.2.2.2.2.2.2.2.2.2.1 rfl
def zw_1810 := z_mt8 zlt_8_0.2.2.2.2.2.2.2.2.2.2.2.2.2.1 rfl
def zw_1811 := z_mt8 zlt_8_0.2.2.2.2.2.2.2.2.2.2.2.2.2.2.1 rfl
def zw_1812 := z_mt8 zlt_8_0.2.2.2.2.2.2.2.2.2.2.2.2.2.2.2 rfl
def zw_1813 := z_mt8 zlt_8_1.1 rfl
def zw_1814 := z_mt8 zlt_8_1.2.1 rfl
def zw_1815 := z_mt8 zlt_8_1.2.2.1 rfl
def zw_1816 := z_mt8 zlt_8_1.2.2.2.1 rfl
def zw_1817 := z_mt8 zlt_8_1.2.2.2.2.1 rfl
def zw_1818 := z_mt8 zlt_8_1.2.2.2.2.2.1 rfl
def zw_1819 := z_mt8 zlt_8_1.2.2.2.2.2.2.1 rfl
def zw_1820 := z_mt8 zlt_8_1.2.2.2.2.2.2.2.1 rfl
def zw_1821 := z_mt8 zlt_8_1.2.2.2.2.2.2.2.2.1 rfl
def zw_1822 := z_mt8 zlt_8_1.2.2.2.2.2.2.2.2.2.1 rfl
def zw_1823 := z_mt8 zlt_8_1.2.2.2.2.2.2.2.2.2.2.1 rfl
def zw_1824 := z_mt8 zlt_8_1.2.2.2.2.2.2.2.2.2.2.2.1 rfl
def zw_1825 := z_mt8 zlt_8_1.2.2.2.2.2.2.2.2.2.2.2.2.1 rfl
def zw_1826 := z_mt8 zlt_8_1.2.2.2.2.2.2.2.2.2.2.2.2.2.1 rfl
def zw_1827 := z_mt8 zlt_8_1.2.2.2.2.2.2.2.2.2.2.2.2.2.2.1 rfl
def zw_1828 := z_mt8 zlt_8_1.2.2.2.2.2.2.2.2.2.2.2.2.2.2.2 rfl
def zw_1829 := z_mt8 zlt_8_2.1 rfl
def zw_1830 := z_mt8 zlt_8_2.2.1 rfl
def zw_1832 := z_mt8 zlt_8_2.2.2.2.1 rfl
def zw_1833 := z_mt8 zlt_8_2.2.2.2.2.1 rfl
def zw_1834 := z_mt8 zlt_8_2.2.2.2.2.2.1 rfl
def zw_1836 := z_mt8 zlt_8_2.2.2.2.2.2.2.2.1 rfl
def zw_1837 := z_mt8 zlt_8_2.2.2.2.2.2.2.2.2.1 rfl
def zw_1838 := z_mt8 zlt_8_2.2.2.2.2.2.2.2.2.2.1 rfl
def zw_1840 := z_mt8 zlt_8_2.2.2.2.2.2.2.2.2.2.2.2.1 rfl
def zw_1841 := z_mt8 zlt_8_2.2.2.2.2.2.2.2.2.2.2.2.2.1 rfl
def zw_1842 := z_mt8 zlt_8_2.2.2.2.2.2.2.2.2.2.2.2.2.2.1 rfl
def zw_1843 := z_mt8 zlt_8_2.2.2.2.2.2.2.2.2.2.2.2.2.2.2.1 rfl
def zw_1844 := z_mt8 zlt_8_2.2.2.2.2.2.2.2.2.2.2.2.2.2.2.2 rfl
def zw_1845 := z_mt8 zlt_8_3.1 rfl
def zw_1846 := z_mt8 zlt_8_3.2.1 rfl
def zw_1861 := z_mt8 zlt_8_4.1 rfl
def zw_1862 := z_mt8 zlt_8_4.2.1 rfl
def zw_1863 := z_mt8 zlt_8_4.2.2.1 rfl
def zw_1864 := z_mt8 zlt_8_4.2.2.2.1 rfl
end
section
/-! The descriptors. -/
theorem zqa_0 : ("LyndonBench$Word" : String) ≠ "java/lang/invoke/MethodHandle" ∧ ("LyndonBench$Word" : String) ≠ "java/lang/invoke/VarHandle" := by decide +kernel
theorem zqa_1 : ("LyndonBench$State" : String) ≠ "java/lang/invoke/MethodHandle" ∧ ("LyndonBench$State" : String) ≠ "java/lang/invoke/VarHandle" := by decide +kernel
theorem zqa_2 : ("LyndonBench$History" : String) ≠ "java/lang/invoke/MethodHandle" ∧ ("LyndonBench$History" : String) ≠ "java/lang/invoke/VarHandle" := by decide +kernel
theorem zqa_3 : ("LyndonBench$Script" : String) ≠ "java/lang/invoke/MethodHandle" ∧ ("LyndonBench$Script" : String) ≠ "java/lang/invoke/VarHandle" := by decide +kernel
theorem zqa_4 : ("LyndonBench$Command" : String) ≠ "java/lang/invoke/MethodHandle" ∧ ("LyndonBench$Command" : String) ≠ "java/lang/invoke/VarHandle" := by decide +kernel
theorem zqa_5 : ("java/lang/Enum" : String) ≠ "java/lang/invoke/MethodHandle" ∧ ("java/lang/Enum" : String) ≠ "java/lang/invoke/VarHandle" := by decide +kernel
theorem zqa_6 : ("java/lang/String" : String) ≠ "java/lang/invoke/MethodHandle" ∧ ("java/lang/String" : String) ≠ "java/lang/invoke/VarHandle" := by decide +kernel
theorem zqa_7 : ("LyndonBench" : String) ≠ "java/lang/invoke/MethodHandle" ∧ ("LyndonBench" : String) ≠ "java/lang/invoke/VarHandle" := by decide +kernel
theorem zqa_8 : ("LyndonBenchModel" : String) ≠ "java/lang/invoke/MethodHandle" ∧ ("LyndonBenchModel" : String) ≠ "java/lang/invoke/VarHandle" := by decide +kernel
theorem zqa_9 : ("java/lang/StringLatin1" : String) ≠ "java/lang/invoke/MethodHandle" ∧ ("java/lang/StringLatin1" : String) ≠ "java/lang/invoke/VarHandle" := by decide +kernel
theorem zqa_10 : ("jdk/internal/util/Preconditions" : String) ≠ "java/lang/invoke/MethodHandle" ∧ ("jdk/internal/util/Preconditions" : String) ≠ "java/lang/invoke/VarHandle" := by decide +kernel
theorem zqa_11 : ("LyndonBenchLaw" : String) ≠ "java/lang/invoke/MethodHandle" ∧ ("LyndonBenchLaw" : String) ≠ "java/lang/invoke/VarHandle" := by decide +kernel
theorem zqd_0 : (parseMethodDescriptor "(IILjava/lang/String;)Z").map (fun d => d.parameters.length) = some 3 := by decide +kernel
theorem zqd_1 : (parseMethodDescriptor "()V").map (fun d => d.parameters.length) = some 0 := by decide +kernel
theorem zqd_2 : (parseMethodDescriptor "(LLyndonBench$State;)V").map (fun d => d.parameters.length) = some 1 := by decide +kernel
theorem zqd_3 : (parseMethodDescriptor "(I)V").map (fun d => d.parameters.length) = some 1 := by decide +kernel
theorem zqd_4 : (parseMethodDescriptor "()Z").map (fun d => d.parameters.length) = some 0 := by decide +kernel
theorem zqd_5 : (parseMethodDescriptor "(I)Z").map (fun d => d.parameters.length) = some 1 := by decide +kernel
theorem zqd_6 : (parseMethodDescriptor "(II)Z").map (fun d => d.parameters.length) = some 2 := by decide +kernel
theorem zqd_7 : (parseMethodDescriptor "(LLyndonBench$Word;II)LLyndonBench$Command;").map (fun d => d.parameters.length) = some 3 := by decide +kernel
theorem zqd_8 : (parseMethodDescriptor "()I").map (fun d => d.parameters.length) = some 0 := by decide +kernel
theorem zqd_9 : (parseMethodDescriptor "(Z)Z").map (fun d => d.parameters.length) = some 1 := by decide +kernel
theorem zqd_10 : (parseMethodDescriptor "(I)I").map (fun d => d.parameters.length) = some 1 := by decide +kernel
theorem zqd_11 : (parseMethodDescriptor "(LLyndonBench$Word;II)V").map (fun d => d.parameters.length) = some 3 := by decide +kernel
theorem zqd_12 : (parseMethodDescriptor "(II)V").map (fun d => d.parameters.length) = some 2 := by decide +kernel
theorem zqd_13 : (parseMethodDescriptor "(LLyndonBench$Word;)V").map (fun d => d.parameters.length) = some 1 := by decide +kernel
theorem zqd_14 : (parseMethodDescriptor "(I)LLyndonBench$Word;").map (fun d => d.parameters.length) = some 1 := by decide +kernel
theorem zqd_15 : (parseMethodDescriptor "(IILLyndonBench$Word;II)I").map (fun d => d.parameters.length) = some 5 := by decide +kernel
theorem zqd_16 : (parseMethodDescriptor "(I)C").map (fun d => d.parameters.length) = some 1 := by decide +kernel
theorem zqd_17 : (parseMethodDescriptor "(II)I").map (fun d => d.parameters.length) = some 2 := by decide +kernel
theorem zqd_18 : (parseMethodDescriptor "(Ljava/lang/String;)V").map (fun d => d.parameters.length) = some 1 := by decide +kernel
theorem zqd_19 : (parseMethodDescriptor "(LLyndonBench$State;)Z").map (fun d => d.parameters.length) = some 1 := by decide +kernel
theorem zqd_20 : (parseMethodDescriptor "(II[I)J").map (fun d => d.parameters.length) = some 3 := by decide +kernel
theorem zqd_21 : (parseMethodDescriptor "(II)J").map (fun d => d.parameters.length) = some 2 := by decide +kernel
theorem zqd_22 : (parseMethodDescriptor "(III)Z").map (fun d => d.parameters.length) = some 3 := by decide +kernel
theorem zqd_23 : (parseMethodDescriptor "(IIII)I").map (fun d => d.parameters.length) = some 4 := by decide +kernel
theorem zqd_24 : (parseMethodDescriptor "(I)J").map (fun d => d.parameters.length) = some 1 := by decide +kernel
theorem zqd_25 : (parseMethodDescriptor "(Ljava/lang/String;)Z").map (fun d => d.parameters.length) = some 1 := by decide +kernel
theorem zqd_26 : (parseMethodDescriptor "(ZZ)Z").map (fun d => d.parameters.length) = some 2 := by decide +kernel
theorem zqd_27 : (parseMethodDescriptor "()B").map (fun d => d.parameters.length) = some 0 := by decide +kernel
theorem zqd_28 : (parseMethodDescriptor "([BI)C").map (fun d => d.parameters.length) = some 2 := by decide +kernel
theorem zqd_29 : (parseMethodDescriptor "(IILjava/util/function/BiFunction;)I").map (fun d => d.parameters.length) = some 3 := by decide +kernel
theorem zqd_30 : (parseMethodDescriptor "(IIIII)I").map (fun d => d.parameters.length) = some 5 := by decide +kernel
theorem zqd_31 : (parseMethodDescriptor "(LLyndonBench;I[J)I").map (fun d => d.parameters.length) = some 3 := by decide +kernel
theorem zqd_32 : (parseMethodDescriptor "(LLyndonBench;[J)I").map (fun d => d.parameters.length) = some 2 := by decide +kernel
theorem zqd_33 : (parseMethodDescriptor "(LLyndonBench;II[J)I").map (fun d => d.parameters.length) = some 4 := by decide +kernel
theorem zqd_34 : (parseMethodDescriptor "(LLyndonBench;IIII[J)I").map (fun d => d.parameters.length) = some 6 := by decide +kernel
theorem zqd_35 : (parseMethodDescriptor "()D").map (fun d => d.parameters.length) = some 0 := by decide +kernel
theorem zqd_36 : (parseMethodDescriptor "()F").map (fun d => d.parameters.length) = some 0 := by decide +kernel
theorem zd_0 : z_okd za_P za_M 0 3 := ⟨⟨zqa_4.1, zqa_4.2, zqd_7⟩, zw_424, zw_134, Nat.le_of_ble_eq_true rfl⟩
theorem zd_1 : z_okd za_P za_M 1 0 := ⟨⟨zqa_2.1, zqa_2.2, zqd_1⟩, zw_196, zw_122, Nat.le_of_ble_eq_true rfl⟩
theorem zd_2 : z_okd za_P za_M 2 1 := ⟨⟨zqa_2.1, zqa_2.2, zqd_2⟩, zw_592, zw_122, Nat.le_of_ble_eq_true rfl⟩
theorem zd_3 : z_okd za_P za_M 3 0 := ⟨⟨zqa_2.1, zqa_2.2, zqd_1⟩, zw_596, zw_122, Nat.le_of_ble_eq_true rfl⟩
theorem zd_4 : z_okd za_P za_M 4 1 := ⟨⟨zqa_2.1, zqa_2.2, zqd_19⟩, zw_619, zw_122, Nat.le_of_ble_eq_true rfl⟩
theorem zd_5 : z_okd za_P za_M 5 0 := ⟨⟨zqa_3.1, zqa_3.2, zqd_1⟩, zw_213, zw_123, Nat.le_of_ble_eq_true rfl⟩
theorem zd_6 : z_okd za_P za_M 6 0 := ⟨⟨zqa_3.1, zqa_3.2, zqd_4⟩, zw_378, zw_123, Nat.le_of_ble_eq_true rfl⟩
theorem zd_7 : z_okd za_P za_M 7 0 := ⟨⟨zqa_3.1, zqa_3.2, zqd_4⟩, zw_382, zw_123, Nat.le_of_ble_eq_true rfl⟩
theorem zd_8 : z_okd za_P za_M 8 0 := ⟨⟨zqa_3.1, zqa_3.2, zqd_4⟩, zw_421, zw_123, Nat.le_of_ble_eq_true rfl⟩
theorem zd_9 : z_okd za_P za_M 9 0 := ⟨⟨zqa_3.1, zqa_3.2, zqd_4⟩, zw_433, zw_123, Nat.le_of_ble_eq_true rfl⟩
theorem zd_10 : z_okd za_P za_M 10 0 := ⟨⟨zqa_3.1, zqa_3.2, zqd_4⟩, zw_417, zw_123, Nat.le_of_ble_eq_true rfl⟩
theorem zd_11 : z_okd za_P za_M 11 1 := ⟨⟨zqa_3.1, zqa_3.2, zqd_9⟩, zw_445, zw_123, Nat.le_of_ble_eq_true rfl⟩
theorem zd_12 : z_okd za_P za_M 12 0 := ⟨⟨zqa_3.1, zqa_3.2, zqd_4⟩, zw_462, zw_123, Nat.le_of_ble_eq_true rfl⟩
theorem zd_13 : z_okd za_P za_M 13 0 := ⟨⟨zqa_3.1, zqa_3.2, zqd_4⟩, zw_466, zw_123, Nat.le_of_ble_eq_true rfl⟩
theorem zd_14 : z_okd za_P za_M 14 0 := ⟨⟨zqa_3.1, zqa_3.2, zqd_4⟩, zw_479, zw_123, Nat.le_of_ble_eq_true rfl⟩
theorem zd_15 : z_okd za_P za_M 15 0 := ⟨⟨zqa_3.1, zqa_3.2, zqd_4⟩, zw_491, zw_123, Nat.le_of_ble_eq_true rfl⟩
theorem zd_16 : z_okd za_P za_M 16 0 := ⟨⟨zqa_3.1, zqa_3.2, zqd_4⟩, zw_496, zw_123, Nat.le_of_ble_eq_true rfl⟩
theorem zd_17 : z_okd za_P za_M 17 0 := ⟨⟨zqa_3.1, zqa_3.2, zqd_4⟩, zw_508, zw_123, Nat.le_of_ble_eq_true rfl⟩
theorem zd_18 : z_okd za_P za_M 18 0 := ⟨⟨zqa_3.1, zqa_3.2, zqd_4⟩, zw_534, zw_123, Nat.le_of_ble_eq_true rfl⟩
theorem zd_19 : z_okd za_P za_M 19 0 := ⟨⟨zqa_3.1, zqa_3.2, zqd_4⟩, zw_556, zw_123, Nat.le_of_ble_eq_true rfl⟩
theorem zd_20 : z_okd za_P za_M 20 0 := ⟨⟨zqa_3.1, zqa_3.2, zqd_4⟩, zw_574, zw_123, Nat.le_of_ble_eq_true rfl⟩
theorem zd_21 : z_okd za_P za_M 21 1 := ⟨⟨zqa_3.1, zqa_3.2, zqd_5⟩, zw_411, zw_123, Nat.le_of_ble_eq_true rfl⟩
theorem zd_22 : z_okd za_P za_M 22 2 := ⟨⟨zqa_3.1, zqa_3.2, zqd_6⟩, zw_407, zw_123, Nat.le_of_ble_eq_true rfl⟩
theorem zd_23 : z_okd za_P za_M 23 1 := ⟨⟨zqa_3.1, zqa_3.2, zqd_9⟩, zw_453, zw_123, Nat.le_of_ble_eq_true rfl⟩
theorem zd_24 : z_okd za_P za_M 24 1 := ⟨⟨zqa_3.1, zqa_3.2, zqd_5⟩, zw_403, zw_123, Nat.le_of_ble_eq_true rfl⟩
theorem zd_25 : z_okd za_P za_M 25 0 := ⟨⟨zqa_3.1, zqa_3.2, zqd_1⟩, zw_386, zw_123, Nat.le_of_ble_eq_true rfl⟩
theorem zd_26 : z_okd za_P za_M 26 0 := ⟨⟨zqa_3.1, zqa_3.2, zqd_1⟩, zw_394, zw_123, Nat.le_of_ble_eq_true rfl⟩
theorem zd_27 : z_okd za_P za_M 27 1 := ⟨⟨zqa_3.1, zqa_3.2, zqd_10⟩, zw_390, zw_123, Nat.le_of_ble_eq_true rfl⟩
theorem zd_28 : z_okd za_P za_M 28 0 := ⟨⟨zqa_1.1, zqa_1.2, zqd_1⟩, zw_151, zw_119, Nat.le_of_ble_eq_true rfl⟩
theorem zd_29 : z_okd za_P za_M 29 1 := ⟨⟨zqa_1.1, zqa_1.2, zqd_3⟩, zw_266, zw_119, Nat.le_of_ble_eq_true rfl⟩
theorem zd_30 : z_okd za_P za_M 30 1 := ⟨⟨zqa_1.1, zqa_1.2, zqd_2⟩, zw_600, zw_119, Nat.le_of_ble_eq_true rfl⟩
theorem zd_31 : z_okd za_P za_M 31 1 := ⟨⟨zqa_1.1, zqa_1.2, zqd_5⟩, zw_449, zw_119, Nat.le_of_ble_eq_true rfl⟩
theorem zd_32 : z_okd za_P za_M 32 0 := ⟨⟨zqa_1.1, zqa_1.2, zqd_8⟩, zw_525, zw_119, Nat.le_of_ble_eq_true rfl⟩
theorem zd_33 : z_okd za_P za_M 33 1 := ⟨⟨zqa_1.1, zqa_1.2, zqd_5⟩, zw_885, zw_119, Nat.le_of_ble_eq_true rfl⟩
theorem zd_34 : z_okd za_P za_M 34 1 := ⟨⟨zqa_1.1, zqa_1.2, zqd_14⟩, zw_564, zw_119, Nat.le_of_ble_eq_true rfl⟩
theorem zd_35 : z_okd za_P za_M 35 1 := ⟨⟨zqa_1.1, zqa_1.2, zqd_5⟩, zw_551, zw_119, Nat.le_of_ble_eq_true rfl⟩
theorem zd_36 : z_okd za_P za_M 36 3 := ⟨⟨zqa_1.1, zqa_1.2, zqd_11⟩, zw_332, zw_119, Nat.le_of_ble_eq_true rfl⟩
theorem zd_37 : z_okd za_P za_M 37 1 := ⟨⟨zqa_1.1, zqa_1.2, zqd_3⟩, zw_560, zw_119, Nat.le_of_ble_eq_true rfl⟩
theorem zd_38 : z_okd za_P za_M 38 1 := ⟨⟨zqa_1.1, zqa_1.2, zqd_10⟩, zw_586, zw_119, Nat.le_of_ble_eq_true rfl⟩
theorem zd_39 : z_okd za_P za_M 39 0 := ⟨⟨zqa_1.1, zqa_1.2, zqd_4⟩, zw_578, zw_119, Nat.le_of_ble_eq_true rfl⟩
theorem zd_40 : z_okd za_P za_M 40 0 := ⟨⟨zqa_1.1, zqa_1.2, zqd_1⟩, zw_582, zw_119, Nat.le_of_ble_eq_true rfl⟩
theorem zd_41 : z_okd za_P za_M 41 1 := ⟨⟨zqa_1.1, zqa_1.2, zqd_5⟩, zw_512, zw_119, Nat.le_of_ble_eq_true rfl⟩
theorem zd_42 : z_okd za_P za_M 42 1 := ⟨⟨zqa_0.1, zqa_0.2, zqd_3⟩, zw_157, zw_120, Nat.le_of_ble_eq_true rfl⟩
theorem zd_43 : z_okd za_P za_M 43 1 := ⟨⟨zqa_0.1, zqa_0.2, zqd_10⟩, zw_340, zw_120, Nat.le_of_ble_eq_true rfl⟩
theorem zd_44 : z_okd za_P za_M 44 2 := ⟨⟨zqa_0.1, zqa_0.2, zqd_12⟩, zw_474, zw_120, Nat.le_of_ble_eq_true rfl⟩
theorem zd_45 : z_okd za_P za_M 45 0 := ⟨⟨zqa_0.1, zqa_0.2, zqd_1⟩, zw_270, zw_120, Nat.le_of_ble_eq_true rfl⟩
theorem zd_46 : z_okd za_P za_M 46 1 := ⟨⟨zqa_0.1, zqa_0.2, zqd_3⟩, zw_327, zw_120, Nat.le_of_ble_eq_true rfl⟩
theorem zd_47 : z_okd za_P za_M 47 1 := ⟨⟨zqa_0.1, zqa_0.2, zqd_3⟩, zw_370, zw_120, Nat.le_of_ble_eq_true rfl⟩
theorem zd_48 : z_okd za_P za_M 48 1 := ⟨⟨zqa_0.1, zqa_0.2, zqd_18⟩, zw_275, zw_120, Nat.le_of_ble_eq_true rfl⟩
theorem zd_49 : z_okd za_P za_M 49 3 := ⟨⟨zqa_0.1, zqa_0.2, zqd_11⟩, zw_336, zw_120, Nat.le_of_ble_eq_true rfl⟩
theorem zd_50 : z_okd za_P za_M 50 1 := ⟨⟨zqa_0.1, zqa_0.2, zqd_3⟩, zw_791, zw_120, Nat.le_of_ble_eq_true rfl⟩
theorem zd_51 : z_okd za_P za_M 51 1 := ⟨⟨zqa_0.1, zqa_0.2, zqd_13⟩, zw_568, zw_120, Nat.le_of_ble_eq_true rfl⟩
theorem zd_52 : z_okd za_P za_M 52 1 := ⟨⟨zqa_0.1, zqa_0.2, zqd_3⟩, zw_457, zw_120, Nat.le_of_ble_eq_true rfl⟩
theorem zd_53 : z_okd za_P za_M 53 2 := ⟨⟨zqa_0.1, zqa_0.2, zqd_12⟩, zw_470, zw_120, Nat.le_of_ble_eq_true rfl⟩
theorem zd_54 : z_okd za_P za_M 54 2 := ⟨⟨zqa_0.1, zqa_0.2, zqd_12⟩, zw_487, zw_120, Nat.le_of_ble_eq_true rfl⟩
theorem zd_55 : z_okd za_P za_M 55 1 := ⟨⟨zqa_0.1, zqa_0.2, zqd_3⟩, zw_483, zw_120, Nat.le_of_ble_eq_true rfl⟩
theorem zd_56 : z_okd za_P za_M 56 1 := ⟨⟨zqa_0.1, zqa_0.2, zqd_5⟩, zw_889, zw_120, Nat.le_of_ble_eq_true rfl⟩
theorem zd_57 : z_okd za_P za_M 57 3 := ⟨⟨zqa_0.1, zqa_0.2, zqd_0⟩, zw_399, zw_120, Nat.le_of_ble_eq_true rfl⟩
theorem zd_58 : z_okd za_P za_M 58 5 := ⟨⟨zqa_0.1, zqa_0.2, zqd_15⟩, zw_546, zw_120, Nat.le_of_ble_eq_true rfl⟩
theorem zd_59 : z_okd za_P za_M 59 1 := ⟨⟨zqa_0.1, zqa_0.2, zqd_10⟩, zw_520, zw_120, Nat.le_of_ble_eq_true rfl⟩
theorem zd_60 : z_okd za_P za_M 60 2 := ⟨⟨zqa_0.1, zqa_0.2, zqd_17⟩, zw_542, zw_120, Nat.le_of_ble_eq_true rfl⟩
theorem zd_61 : z_okd za_P za_M 61 0 := ⟨⟨zqa_0.1, zqa_0.2, zqd_8⟩, zw_611, zw_120, Nat.le_of_ble_eq_true rfl⟩
theorem zd_62 : z_okd za_P za_M 62 0 := ⟨⟨zqa_0.1, zqa_0.2, zqd_4⟩, zw_516, zw_120, Nat.le_of_ble_eq_true rfl⟩
theorem zd_63 : z_okd za_P za_M 63 1 := ⟨⟨zqa_0.1, zqa_0.2, zqd_10⟩, zw_538, zw_120, Nat.le_of_ble_eq_true rfl⟩
theorem zd_64 : z_okd za_P za_M 64 1 := ⟨⟨zqa_0.1, zqa_0.2, zqd_10⟩, zw_660, zw_120, Nat.le_of_ble_eq_true rfl⟩
theorem zd_65 : z_okd za_P za_M 65 0 := ⟨⟨zqa_0.1, zqa_0.2, zqd_8⟩, zw_668, zw_120, Nat.le_of_ble_eq_true rfl⟩
theorem zd_66 : z_okd za_P za_M 66 2 := ⟨⟨zqa_0.1, zqa_0.2, zqd_17⟩, zw_785, zw_120, Nat.le_of_ble_eq_true rfl⟩
theorem zd_67 : z_okd za_P za_M 67 2 := ⟨⟨zqa_0.1, zqa_0.2, zqd_6⟩, zw_777, zw_120, Nat.le_of_ble_eq_true rfl⟩
theorem zd_68 : z_okd za_P za_M 68 0 := ⟨⟨zqa_0.1, zqa_0.2, zqd_4⟩, zw_702, zw_120, Nat.le_of_ble_eq_true rfl⟩
theorem zd_69 : z_okd za_P za_M 69 1 := ⟨⟨zqa_0.1, zqa_0.2, zqd_5⟩, zw_689, zw_120, Nat.le_of_ble_eq_true rfl⟩
theorem zd_70 : z_okd za_P za_M 70 0 := ⟨⟨zqa_0.1, zqa_0.2, zqd_8⟩, zw_685, zw_120, Nat.le_of_ble_eq_true rfl⟩
theorem zd_71 : z_okd za_P za_M 71 0 := ⟨⟨zqa_0.1, zqa_0.2, zqd_8⟩, zw_681, zw_120, Nat.le_of_ble_eq_true rfl⟩
theorem zd_72 : z_okd za_P za_M 72 0 := ⟨⟨zqa_0.1, zqa_0.2, zqd_8⟩, zw_500, zw_120, Nat.le_of_ble_eq_true rfl⟩
theorem zd_73 : z_okd za_P za_M 73 1 := ⟨⟨zqa_0.1, zqa_0.2, zqd_10⟩, zw_504, zw_120, Nat.le_of_ble_eq_true rfl⟩
theorem zd_74 : z_okd za_P za_M 74 1 := ⟨⟨zqa_0.1, zqa_0.2, zqd_10⟩, zw_732, zw_120, Nat.le_of_ble_eq_true rfl⟩
theorem zd_75 : z_okd za_P za_M 75 2 := ⟨⟨zqa_0.1, zqa_0.2, zqd_12⟩, zw_530, zw_120, Nat.le_of_ble_eq_true rfl⟩
theorem zd_76 : z_okd za_P za_M 76 0 := ⟨⟨zqa_7.1, zqa_7.2, zqd_1⟩, zw_143, zw_118, Nat.le_of_ble_eq_true rfl⟩
theorem zd_77 : z_okd za_P za_M 77 5 := ⟨⟨zqa_7.1, zqa_7.2, zqd_30⟩, zw_366, zw_118, Nat.le_of_ble_eq_true rfl⟩
theorem zd_78 : z_okd za_P za_M 78 1 := ⟨⟨zqa_7.1, zqa_7.2, zqd_10⟩, zw_803, zw_118, Nat.le_of_ble_eq_true rfl⟩
theorem zd_79 : z_okd za_P za_M 79 0 := ⟨⟨zqa_7.1, zqa_7.2, zqd_8⟩, zw_374, zw_118, Nat.le_of_ble_eq_true rfl⟩
theorem zd_80 : z_okd za_P za_M 80 1 := ⟨⟨zqa_7.1, zqa_7.2, zqd_10⟩, zw_880, zw_118, Nat.le_of_ble_eq_true rfl⟩
theorem zd_81 : z_okd za_P za_M 81 0 := ⟨⟨zqa_7.1, zqa_7.2, zqd_8⟩, zw_912, zw_118, Nat.le_of_ble_eq_true rfl⟩
theorem zd_82 : z_okd za_P za_M 82 1 := ⟨⟨zqa_7.1, zqa_7.2, zqd_10⟩, zw_921, zw_118, Nat.le_of_ble_eq_true rfl⟩
theorem zd_83 : z_okd za_P za_M 83 1 := ⟨⟨zqa_7.1, zqa_7.2, zqd_10⟩, zw_933, zw_118, Nat.le_of_ble_eq_true rfl⟩
theorem zd_84 : z_okd za_P za_M 84 2 := ⟨⟨zqa_7.1, zqa_7.2, zqd_17⟩, zw_945, zw_118, Nat.le_of_ble_eq_true rfl⟩
theorem zd_85 : z_okd za_P za_M 85 1 := ⟨⟨zqa_7.1, zqa_7.2, zqd_10⟩, zw_958, zw_118, Nat.le_of_ble_eq_true rfl⟩
theorem zd_86 : z_okd za_P za_M 86 0 := ⟨⟨zqa_7.1, zqa_7.2, zqd_8⟩, zw_606, zw_118, Nat.le_of_ble_eq_true rfl⟩
theorem zd_87 : z_okd za_P za_M 87 0 := ⟨⟨zqa_7.1, zqa_7.2, zqd_8⟩, zw_966, zw_118, Nat.le_of_ble_eq_true rfl⟩
theorem zd_88 : z_okd za_P za_M 88 1 := ⟨⟨zqa_7.1, zqa_7.2, zqd_10⟩, zw_974, zw_118, Nat.le_of_ble_eq_true rfl⟩
theorem zd_89 : z_okd za_P za_M 89 1 := ⟨⟨zqa_7.1, zqa_7.2, zqd_10⟩, zw_987, zw_118, Nat.le_of_ble_eq_true rfl⟩
theorem zd_90 : z_okd za_P za_M 90 0 := ⟨⟨zqa_7.1, zqa_7.2, zqd_8⟩, zw_1017, zw_118, Nat.le_of_ble_eq_true rfl⟩
theorem zd_91 : z_okd za_P za_M 91 1 := ⟨⟨zqa_7.1, zqa_7.2, zqd_10⟩, zw_1025, zw_118, Nat.le_of_ble_eq_true rfl⟩
theorem zd_92 : z_okd za_P za_M 92 0 := ⟨⟨zqa_7.1, zqa_7.2, zqd_8⟩, zw_1034, zw_118, Nat.le_of_ble_eq_true rfl⟩
theorem zd_93 : z_okd za_P za_M 93 0 := ⟨⟨zqa_7.1, zqa_7.2, zqd_8⟩, zw_615, zw_118, Nat.le_of_ble_eq_true rfl⟩
theorem zd_94 : z_okd za_P za_M 94 0 := ⟨⟨zqa_7.1, zqa_7.2, zqd_8⟩, zw_623, zw_118, Nat.le_of_ble_eq_true rfl⟩
theorem zd_95 : z_okd za_P za_M 95 0 := ⟨⟨zqa_7.1, zqa_7.2, zqd_8⟩, zw_627, zw_118, Nat.le_of_ble_eq_true rfl⟩
theorem zd_96 : z_okd za_P za_M 96 0 := ⟨⟨zqa_7.1, zqa_7.2, zqd_8⟩, zw_1045, zw_118, Nat.le_of_ble_eq_true rfl⟩
theorem zd_97 : z_okd za_P za_M 97 0 := ⟨⟨zqa_7.1, zqa_7.2, zqd_8⟩, zw_631, zw_118, Nat.le_of_ble_eq_true rfl⟩
theorem zd_98 : z_okd za_P za_M 98 0 := ⟨⟨zqa_7.1, zqa_7.2, zqd_8⟩, zw_635, zw_118, Nat.le_of_ble_eq_true rfl⟩
theorem zd_99 : z_okd za_P za_M 99 0 := ⟨⟨zqa_7.1, zqa_7.2, zqd_8⟩, zw_639, zw_118, Nat.le_of_ble_eq_true rfl⟩
theorem zd_100 : z_okd za_P za_M 100 0 := ⟨⟨zqa_7.1, zqa_7.2, zqd_8⟩, zw_643, zw_118, Nat.le_of_ble_eq_true rfl⟩
theorem zd_101 : z_okd za_P za_M 101 1 := ⟨⟨zqa_7.1, zqa_7.2, zqd_10⟩, zw_647, zw_118, Nat.le_of_ble_eq_true rfl⟩
theorem zd_102 : z_okd za_P za_M 102 4 := ⟨⟨zqa_7.1, zqa_7.2, zqd_23⟩, zw_1068, zw_118, Nat.le_of_ble_eq_true rfl⟩
theorem zd_103 : z_okd za_P za_M 103 0 := ⟨⟨zqa_7.1, zqa_7.2, zqd_8⟩, zw_652, zw_118, Nat.le_of_ble_eq_true rfl⟩
theorem zd_104 : z_okd za_P za_M 104 1 := ⟨⟨zqa_7.1, zqa_7.2, zqd_10⟩, zw_1075, zw_118, Nat.le_of_ble_eq_true rfl⟩
theorem zd_105 : z_okd za_P za_M 105 1 := ⟨⟨zqa_7.1, zqa_7.2, zqd_10⟩, zw_1082, zw_118, Nat.le_of_ble_eq_true rfl⟩
theorem zd_106 : z_okd za_P za_M 106 1 := ⟨⟨zqa_7.1, zqa_7.2, zqd_10⟩, zw_1089, zw_118, Nat.le_of_ble_eq_true rfl⟩
theorem zd_107 : z_okd za_P za_M 107 1 := ⟨⟨zqa_7.1, zqa_7.2, zqd_10⟩, zw_656, zw_118, Nat.le_of_ble_eq_true rfl⟩
theorem zd_108 : z_okd za_P za_M 108 0 := ⟨⟨zqa_7.1, zqa_7.2, zqd_8⟩, zw_664, zw_118, Nat.le_of_ble_eq_true rfl⟩
theorem zd_109 : z_okd za_P za_M 109 1 := ⟨⟨zqa_7.1, zqa_7.2, zqd_10⟩, zw_1096, zw_118, Nat.le_of_ble_eq_true rfl⟩
theorem zd_110 : z_okd za_P za_M 110 1 := ⟨⟨zqa_7.1, zqa_7.2, zqd_10⟩, zw_1104, zw_118, Nat.le_of_ble_eq_true rfl⟩
theorem zd_111 : z_okd za_P za_M 111 1 := ⟨⟨zqa_7.1, zqa_7.2, zqd_10⟩, zw_1111, zw_118, Nat.le_of_ble_eq_true rfl⟩
theorem zd_112 : z_okd za_P za_M 112 0 := ⟨⟨zqa_7.1, zqa_7.2, zqd_4⟩, zw_672, zw_118, Nat.le_of_ble_eq_true rfl⟩
theorem zd_113 : z_okd za_P za_M 113 0 := ⟨⟨zqa_7.1, zqa_7.2, zqd_8⟩, zw_677, zw_118, Nat.le_of_ble_eq_true rfl⟩
theorem zd_114 : z_okd za_P za_M 114 0 := ⟨⟨zqa_7.1, zqa_7.2, zqd_4⟩, zw_694, zw_118, Nat.le_of_ble_eq_true rfl⟩
theorem zd_115 : z_okd za_P za_M 115 0 := ⟨⟨zqa_7.1, zqa_7.2, zqd_4⟩, zw_698, zw_118, Nat.le_of_ble_eq_true rfl⟩
theorem zd_116 : z_okd za_P za_M 116 0 := ⟨⟨zqa_7.1, zqa_7.2, zqd_8⟩, zw_706, zw_118, Nat.le_of_ble_eq_true rfl⟩
theorem zd_117 : z_okd za_P za_M 117 0 := ⟨⟨zqa_7.1, zqa_7.2, zqd_8⟩, zw_711, zw_118, Nat.le_of_ble_eq_true rfl⟩
theorem zd_118 : z_okd za_P za_M 118 0 := ⟨⟨zqa_7.1, zqa_7.2, zqd_8⟩, zw_715, zw_118, Nat.le_of_ble_eq_true rfl⟩
theorem zd_119 : z_okd za_P za_M 119 0 := ⟨⟨zqa_7.1, zqa_7.2, zqd_8⟩, zw_719, zw_118, Nat.le_of_ble_eq_true rfl⟩
theorem zd_120 : z_okd za_P za_M 120 0 := ⟨⟨zqa_7.1, zqa_7.2, zqd_8⟩, zw_724, zw_118, Nat.le_of_ble_eq_true rfl⟩
theorem zd_121 : z_okd za_P za_M 121 0 := ⟨⟨zqa_7.1, zqa_7.2, zqd_8⟩, zw_728, zw_118, Nat.le_of_ble_eq_true rfl⟩
theorem zd_122 : z_okd za_P za_M 122 0 := ⟨⟨zqa_7.1, zqa_7.2, zqd_8⟩, zw_736, zw_118, Nat.le_of_ble_eq_true rfl⟩
theorem zd_123 : z_okd za_P za_M 123 1 := ⟨⟨zqa_7.1, zqa_7.2, zqd_24⟩, zw_1130, zw_118, Nat.le_of_ble_eq_true rfl⟩
theorem zd_124 : z_okd za_P za_M 124 1 := ⟨⟨zqa_7.1, zqa_7.2, zqd_24⟩, zw_1142, zw_118, Nat.le_of_ble_eq_true rfl⟩
theorem zd_125 : z_okd za_P za_M 125 2 := ⟨⟨zqa_7.1, zqa_7.2, zqd_17⟩, zw_1149, zw_118, Nat.le_of_ble_eq_true rfl⟩
theorem zd_126 : z_okd za_P za_M 126 0 := ⟨⟨zqa_7.1, zqa_7.2, zqd_8⟩, zw_740, zw_118, Nat.le_of_ble_eq_true rfl⟩
theorem zd_127 : z_okd za_P za_M 127 1 := ⟨⟨zqa_7.1, zqa_7.2, zqd_10⟩, zw_1162, zw_118, Nat.le_of_ble_eq_true rfl⟩
theorem zd_128 : z_okd za_P za_M 128 2 := ⟨⟨zqa_7.1, zqa_7.2, zqd_17⟩, zw_1169, zw_118, Nat.le_of_ble_eq_true rfl⟩
theorem zd_129 : z_okd za_P za_M 129 0 := ⟨⟨zqa_7.1, zqa_7.2, zqd_4⟩, zw_744, zw_118, Nat.le_of_ble_eq_true rfl⟩
theorem zd_130 : z_okd za_P za_M 130 0 := ⟨⟨zqa_7.1, zqa_7.2, zqd_8⟩, zw_750, zw_118, Nat.le_of_ble_eq_true rfl⟩
theorem zd_131 : z_okd za_P za_M 131 0 := ⟨⟨zqa_7.1, zqa_7.2, zqd_35⟩, zw_755, zw_118, Nat.le_of_ble_eq_true rfl⟩
theorem zd_132 : z_okd za_P za_M 132 0 := ⟨⟨zqa_7.1, zqa_7.2, zqd_36⟩, zw_759, zw_118, Nat.le_of_ble_eq_true rfl⟩
theorem zd_133 : z_okd za_P za_M 133 0 := ⟨⟨zqa_7.1, zqa_7.2, zqd_8⟩, zw_773, zw_118, Nat.le_of_ble_eq_true rfl⟩
theorem zd_134 : z_okd za_P za_M 134 0 := ⟨⟨zqa_7.1, zqa_7.2, zqd_8⟩, zw_781, zw_118, Nat.le_of_ble_eq_true rfl⟩
theorem zd_135 : z_okd za_P za_M 135 1 := ⟨⟨zqa_7.1, zqa_7.2, zqd_10⟩, zw_795, zw_118, Nat.le_of_ble_eq_true rfl⟩
theorem zd_136 : z_okd za_P za_M 136 1 := ⟨⟨zqa_7.1, zqa_7.2, zqd_3⟩, zw_925, zw_118, Nat.le_of_ble_eq_true rfl⟩
theorem zd_137 : z_okd za_P za_M 137 1 := ⟨⟨zqa_7.1, zqa_7.2, zqd_3⟩, zw_937, zw_118, Nat.le_of_ble_eq_true rfl⟩
theorem zd_138 : z_okd za_P za_M 138 2 := ⟨⟨zqa_7.1, zqa_7.2, zqd_12⟩, zw_949, zw_118, Nat.le_of_ble_eq_true rfl⟩
theorem zd_139 : z_okd za_P za_M 139 1 := ⟨⟨zqa_7.1, zqa_7.2, zqd_3⟩, zw_1134, zw_118, Nat.le_of_ble_eq_true rfl⟩
theorem zd_140 : z_okd za_P za_M 140 1 := ⟨⟨zqa_7.1, zqa_7.2, zqd_10⟩, zw_991, zw_118, Nat.le_of_ble_eq_true rfl⟩
theorem zd_141 : z_okd za_P za_M 141 2 := ⟨⟨zqa_7.1, zqa_7.2, zqd_6⟩, zw_1114, zw_118, Nat.le_of_ble_eq_true rfl⟩
theorem zd_142 : z_okd za_P za_M 142 3 := ⟨⟨zqa_7.1, zqa_7.2, zqd_20⟩, zw_764, zw_118, Nat.le_of_ble_eq_true rfl⟩
theorem zd_143 : z_okd za_P za_M 143 2 := ⟨⟨zqa_7.1, zqa_7.2, zqd_21⟩, zw_767, zw_118, Nat.le_of_ble_eq_true rfl⟩
theorem zd_144 : z_okd za_P za_M 144 0 := ⟨⟨zqa_7.1, zqa_7.2, zqd_1⟩, zw_1123, zw_118, Nat.le_of_ble_eq_true rfl⟩
theorem zd_145 : z_okd za_P za_M 145 2 := ⟨⟨zqa_7.1, zqa_7.2, zqd_17⟩, zw_1119, zw_118, Nat.le_of_ble_eq_true rfl⟩
theorem zd_146 : z_okd za_P za_M 146 2 := ⟨⟨zqa_7.1, zqa_7.2, zqd_17⟩, zw_1154, zw_118, Nat.le_of_ble_eq_true rfl⟩
theorem zd_147 : z_okd za_P za_M 147 0 := ⟨⟨zqa_8.1, zqa_8.2, zqd_1⟩, zw_1174, zw_128, Nat.le_of_ble_eq_true rfl⟩
theorem zd_148 : z_okd za_P za_M 148 3 := ⟨⟨zqa_8.1, zqa_8.2, zqd_22⟩, zw_1217, zw_128, Nat.le_of_ble_eq_true rfl⟩
theorem zd_149 : z_okd za_P za_M 149 1 := ⟨⟨zqa_8.1, zqa_8.2, zqd_9⟩, zw_1523, zw_128, Nat.le_of_ble_eq_true rfl⟩
theorem zd_150 : z_okd za_P za_M 150 2 := ⟨⟨zqa_8.1, zqa_8.2, zqd_26⟩, zw_1548, zw_128, Nat.le_of_ble_eq_true rfl⟩
theorem zd_151 : z_okd za_P za_M 151 1 := ⟨⟨zqa_8.1, zqa_8.2, zqd_5⟩, zw_1261, zw_128, Nat.le_of_ble_eq_true rfl⟩
theorem zd_152 : z_okd za_P za_M 152 1 := ⟨⟨zqa_8.1, zqa_8.2, zqd_5⟩, zw_1600, zw_128, Nat.le_of_ble_eq_true rfl⟩
theorem zd_153 : z_okd za_P za_M 153 4 := ⟨⟨zqa_8.1, zqa_8.2, zqd_23⟩, zw_1429, zw_128, Nat.le_of_ble_eq_true rfl⟩
theorem zd_154 : z_okd za_P za_M 154 2 := ⟨⟨zqa_8.1, zqa_8.2, zqd_17⟩, zw_1425, zw_128, Nat.le_of_ble_eq_true rfl⟩
theorem zd_155 : z_okd za_P za_M 155 0 := ⟨⟨zqa_8.1, zqa_8.2, zqd_1⟩, zw_1277, zw_128, Nat.le_of_ble_eq_true rfl⟩
theorem zd_156 : z_okd za_P za_M 156 1 := ⟨⟨zqa_8.1, zqa_8.2, zqd_3⟩, zw_1433, zw_128, Nat.le_of_ble_eq_true rfl⟩
theorem zd_157 : z_okd za_P za_M 157 1 := ⟨⟨zqa_8.1, zqa_8.2, zqd_3⟩, zw_1317, zw_128, Nat.le_of_ble_eq_true rfl⟩
theorem zd_158 : z_okd za_P za_M 158 2 := ⟨⟨zqa_8.1, zqa_8.2, zqd_6⟩, zw_1297, zw_128, Nat.le_of_ble_eq_true rfl⟩
theorem zd_159 : z_okd za_P za_M 159 0 := ⟨⟨zqa_8.1, zqa_8.2, zqd_8⟩, zw_1293, zw_128, Nat.le_of_ble_eq_true rfl⟩
theorem zd_160 : z_okd za_P za_M 160 0 := ⟨⟨zqa_8.1, zqa_8.2, zqd_8⟩, zw_1289, zw_128, Nat.le_of_ble_eq_true rfl⟩
theorem zd_161 : z_okd za_P za_M 161 1 := ⟨⟨zqa_8.1, zqa_8.2, zqd_10⟩, zw_1361, zw_128, Nat.le_of_ble_eq_true rfl⟩
theorem zd_162 : z_okd za_P za_M 162 0 := ⟨⟨zqa_8.1, zqa_8.2, zqd_4⟩, zw_1357, zw_128, Nat.le_of_ble_eq_true rfl⟩
theorem zd_163 : z_okd za_P za_M 163 0 := ⟨⟨zqa_8.1, zqa_8.2, zqd_4⟩, zw_1365, zw_128, Nat.le_of_ble_eq_true rfl⟩
theorem zd_164 : z_okd za_P za_M 164 0 := ⟨⟨zqa_8.1, zqa_8.2, zqd_4⟩, zw_1732, zw_128, Nat.le_of_ble_eq_true rfl⟩
theorem zd_165 : z_okd za_P za_M 165 0 := ⟨⟨zqa_8.1, zqa_8.2, zqd_8⟩, zw_1353, zw_128, Nat.le_of_ble_eq_true rfl⟩
theorem zd_166 : z_okd za_P za_M 166 0 := ⟨⟨zqa_8.1, zqa_8.2, zqd_8⟩, zw_1756, zw_128, Nat.le_of_ble_eq_true rfl⟩
theorem zd_167 : z_okd za_P za_M 167 2 := ⟨⟨zqa_8.1, zqa_8.2, zqd_17⟩, zw_1341, zw_128, Nat.le_of_ble_eq_true rfl⟩
theorem zd_168 : z_okd za_P za_M 168 0 := ⟨⟨zqa_8.1, zqa_8.2, zqd_8⟩, zw_1337, zw_128, Nat.le_of_ble_eq_true rfl⟩
theorem zd_169 : z_okd za_P za_M 169 1 := ⟨⟨zqa_8.1, zqa_8.2, zqd_10⟩, zw_1768, zw_128, Nat.le_of_ble_eq_true rfl⟩
theorem zd_170 : z_okd za_P za_M 170 1 := ⟨⟨zqa_8.1, zqa_8.2, zqd_10⟩, zw_1704, zw_128, Nat.le_of_ble_eq_true rfl⟩
theorem zd_171 : z_okd za_P za_M 171 2 := ⟨⟨zqa_8.1, zqa_8.2, zqd_12⟩, zw_1712, zw_128, Nat.le_of_ble_eq_true rfl⟩
theorem zd_172 : z_okd za_P za_M 172 0 := ⟨⟨zqa_8.1, zqa_8.2, zqd_8⟩, zw_1748, zw_128, Nat.le_of_ble_eq_true rfl⟩
theorem zd_173 : z_okd za_P za_M 173 1 := ⟨⟨zqa_8.1, zqa_8.2, zqd_24⟩, zw_1780, zw_128, Nat.le_of_ble_eq_true rfl⟩
theorem zd_174 : z_okd za_P za_M 174 1 := ⟨⟨zqa_8.1, zqa_8.2, zqd_24⟩, zw_1788, zw_128, Nat.le_of_ble_eq_true rfl⟩
theorem zd_175 : z_okd za_P za_M 175 0 := ⟨⟨zqa_8.1, zqa_8.2, zqd_8⟩, zw_1269, zw_128, Nat.le_of_ble_eq_true rfl⟩
theorem zd_176 : z_okd za_P za_M 176 1 := ⟨⟨zqa_8.1, zqa_8.2, zqd_10⟩, zw_1560, zw_128, Nat.le_of_ble_eq_true rfl⟩
theorem zd_177 : z_okd za_P za_M 177 1 := ⟨⟨zqa_8.1, zqa_8.2, zqd_10⟩, zw_1285, zw_128, Nat.le_of_ble_eq_true rfl⟩
theorem zd_178 : z_okd za_P za_M 178 2 := ⟨⟨zqa_8.1, zqa_8.2, zqd_17⟩, zw_1305, zw_128, Nat.le_of_ble_eq_true rfl⟩
theorem zd_179 : z_okd za_P za_M 179 1 := ⟨⟨zqa_8.1, zqa_8.2, zqd_10⟩, zw_1313, zw_128, Nat.le_of_ble_eq_true rfl⟩
theorem zd_180 : z_okd za_P za_M 180 0 := ⟨⟨zqa_8.1, zqa_8.2, zqd_8⟩, zw_1325, zw_128, Nat.le_of_ble_eq_true rfl⟩
theorem zd_181 : z_okd za_P za_M 181 0 := ⟨⟨zqa_8.1, zqa_8.2, zqd_8⟩, zw_1333, zw_128, Nat.le_of_ble_eq_true rfl⟩
theorem zd_182 : z_okd za_P za_M 182 1 := ⟨⟨zqa_8.1, zqa_8.2, zqd_3⟩, zw_1369, zw_128, Nat.le_of_ble_eq_true rfl⟩
theorem zd_183 : z_okd za_P za_M 183 1 := ⟨⟨zqa_8.1, zqa_8.2, zqd_5⟩, zw_1349, zw_128, Nat.le_of_ble_eq_true rfl⟩
theorem zd_184 : z_okd za_P za_M 184 1 := ⟨⟨zqa_8.1, zqa_8.2, zqd_10⟩, zw_1373, zw_128, Nat.le_of_ble_eq_true rfl⟩
theorem zd_185 : z_okd za_P za_M 185 2 := ⟨⟨zqa_8.1, zqa_8.2, zqd_17⟩, zw_1385, zw_128, Nat.le_of_ble_eq_true rfl⟩
theorem zd_186 : z_okd za_P za_M 186 1 := ⟨⟨zqa_8.1, zqa_8.2, zqd_5⟩, zw_1389, zw_128, Nat.le_of_ble_eq_true rfl⟩
theorem zd_187 : z_okd za_P za_M 187 0 := ⟨⟨zqa_8.1, zqa_8.2, zqd_4⟩, zw_1381, zw_128, Nat.le_of_ble_eq_true rfl⟩
theorem zd_188 : z_okd za_P za_M 188 1 := ⟨⟨zqa_8.1, zqa_8.2, zqd_10⟩, zw_1393, zw_128, Nat.le_of_ble_eq_true rfl⟩
theorem zd_189 : z_okd za_P za_M 189 1 := ⟨⟨zqa_8.1, zqa_8.2, zqd_10⟩, zw_1401, zw_128, Nat.le_of_ble_eq_true rfl⟩
theorem zd_190 : z_okd za_P za_M 190 0 := ⟨⟨zqa_8.1, zqa_8.2, zqd_8⟩, zw_1413, zw_128, Nat.le_of_ble_eq_true rfl⟩
theorem zd_191 : z_okd za_P za_M 191 0 := ⟨⟨zqa_8.1, zqa_8.2, zqd_4⟩, zw_1409, zw_128, Nat.le_of_ble_eq_true rfl⟩
theorem zd_192 : z_okd za_P za_M 192 1 := ⟨⟨zqa_8.1, zqa_8.2, zqd_10⟩, zw_1421, zw_128, Nat.le_of_ble_eq_true rfl⟩
theorem zd_193 : z_okd za_P za_M 193 0 := ⟨⟨zqa_8.1, zqa_8.2, zqd_8⟩, zw_1417, zw_128, Nat.le_of_ble_eq_true rfl⟩
theorem zd_194 : z_okd za_P za_M 194 1 := ⟨⟨zqa_8.1, zqa_8.2, zqd_5⟩, zw_1543, zw_128, Nat.le_of_ble_eq_true rfl⟩
theorem zd_195 : z_okd za_P za_M 195 1 := ⟨⟨zqa_8.1, zqa_8.2, zqd_18⟩, zw_1180, zw_128, Nat.le_of_ble_eq_true rfl⟩
theorem zd_196 : z_okd za_P za_M 196 1 := ⟨⟨zqa_8.1, zqa_8.2, zqd_10⟩, zw_1193, zw_128, Nat.le_of_ble_eq_true rfl⟩
theorem zd_197 : z_okd za_P za_M 197 0 := ⟨⟨zqa_8.1, zqa_8.2, zqd_1⟩, zw_1190, zw_128, Nat.le_of_ble_eq_true rfl⟩
theorem zd_198 : z_okd za_P za_M 198 1 := ⟨⟨zqa_8.1, zqa_8.2, zqd_25⟩, zw_1202, zw_128, Nat.le_of_ble_eq_true rfl⟩
theorem zd_199 : z_okd za_P za_M 199 1 := ⟨⟨zqa_8.1, zqa_8.2, zqd_5⟩, zw_1206, zw_128, Nat.le_of_ble_eq_true rfl⟩
theorem zd_200 : z_okd za_P za_M 200 1 := ⟨⟨zqa_8.1, zqa_8.2, zqd_5⟩, zw_1214, zw_128, Nat.le_of_ble_eq_true rfl⟩
theorem zd_201 : z_okd za_P za_M 201 3 := ⟨⟨zqa_8.1, zqa_8.2, zqd_22⟩, zw_1210, zw_128, Nat.le_of_ble_eq_true rfl⟩
theorem zd_202 : z_okd za_P za_M 202 1 := ⟨⟨zqa_8.1, zqa_8.2, zqd_9⟩, zw_1265, zw_128, Nat.le_of_ble_eq_true rfl⟩
theorem zd_203 : z_okd za_P za_M 203 1 := ⟨⟨zqa_8.1, zqa_8.2, zqd_5⟩, zw_1257, zw_128, Nat.le_of_ble_eq_true rfl⟩
theorem zd_204 : z_okd za_P za_M 204 0 := ⟨⟨zqa_8.1, zqa_8.2, zqd_4⟩, zw_1253, zw_128, Nat.le_of_ble_eq_true rfl⟩
theorem zd_205 : z_okd za_P za_M 205 0 := ⟨⟨zqa_8.1, zqa_8.2, zqd_4⟩, zw_1273, zw_128, Nat.le_of_ble_eq_true rfl⟩
theorem zd_206 : z_okd za_P za_M 206 0 := ⟨⟨zqa_8.1, zqa_8.2, zqd_4⟩, zw_1281, zw_128, Nat.le_of_ble_eq_true rfl⟩
theorem zd_207 : z_okd za_P za_M 207 0 := ⟨⟨zqa_8.1, zqa_8.2, zqd_4⟩, zw_1301, zw_128, Nat.le_of_ble_eq_true rfl⟩
theorem zd_208 : z_okd za_P za_M 208 0 := ⟨⟨zqa_8.1, zqa_8.2, zqd_4⟩, zw_1309, zw_128, Nat.le_of_ble_eq_true rfl⟩
theorem zd_209 : z_okd za_P za_M 209 0 := ⟨⟨zqa_8.1, zqa_8.2, zqd_4⟩, zw_1321, zw_128, Nat.le_of_ble_eq_true rfl⟩
theorem zd_210 : z_okd za_P za_M 210 0 := ⟨⟨zqa_8.1, zqa_8.2, zqd_4⟩, zw_1329, zw_128, Nat.le_of_ble_eq_true rfl⟩
theorem zd_211 : z_okd za_P za_M 211 0 := ⟨⟨zqa_8.1, zqa_8.2, zqd_4⟩, zw_1345, zw_128, Nat.le_of_ble_eq_true rfl⟩
theorem zd_212 : z_okd za_P za_M 212 0 := ⟨⟨zqa_8.1, zqa_8.2, zqd_4⟩, zw_1377, zw_128, Nat.le_of_ble_eq_true rfl⟩
theorem zd_213 : z_okd za_P za_M 213 0 := ⟨⟨zqa_8.1, zqa_8.2, zqd_4⟩, zw_1397, zw_128, Nat.le_of_ble_eq_true rfl⟩
theorem zd_214 : z_okd za_P za_M 214 0 := ⟨⟨zqa_8.1, zqa_8.2, zqd_4⟩, zw_1405, zw_128, Nat.le_of_ble_eq_true rfl⟩
theorem zd_215 : z_okd za_P za_M 215 1 := ⟨⟨zqa_8.1, zqa_8.2, zqd_5⟩, zw_1245, zw_128, Nat.le_of_ble_eq_true rfl⟩
theorem zd_216 : z_okd za_P za_M 216 0 := ⟨⟨zqa_8.1, zqa_8.2, zqd_8⟩, zw_1225, zw_128, Nat.le_of_ble_eq_true rfl⟩
theorem zd_217 : z_okd za_P za_M 217 0 := ⟨⟨zqa_8.1, zqa_8.2, zqd_8⟩, zw_1235, zw_128, Nat.le_of_ble_eq_true rfl⟩
theorem zd_218 : z_okd za_P za_M 218 1 := ⟨⟨zqa_8.1, zqa_8.2, zqd_5⟩, zw_1221, zw_128, Nat.le_of_ble_eq_true rfl⟩
theorem zd_219 : z_okd za_P za_M 219 1 := ⟨⟨zqa_8.1, zqa_8.2, zqd_5⟩, zw_1249, zw_128, Nat.le_of_ble_eq_true rfl⟩
theorem zd_220 : z_okd za_P za_M 220 0 := ⟨⟨zqa_8.1, zqa_8.2, zqd_4⟩, zw_1197, zw_128, Nat.le_of_ble_eq_true rfl⟩
theorem zd_221 : z_okd za_P za_M 221 0 := ⟨⟨zqa_8.1, zqa_8.2, zqd_4⟩, zw_1186, zw_128, Nat.le_of_ble_eq_true rfl⟩
theorem zd_222 : z_okd za_P za_M 222 5 := ⟨⟨zqa_8.1, zqa_8.2, zqd_30⟩, zw_1511, zw_128, Nat.le_of_ble_eq_true rfl⟩
theorem zd_223 : z_okd za_P za_M 223 1 := ⟨⟨zqa_8.1, zqa_8.2, zqd_3⟩, zw_1515, zw_128, Nat.le_of_ble_eq_true rfl⟩
theorem zd_224 : z_okd za_P za_M 224 1 := ⟨⟨zqa_8.1, zqa_8.2, zqd_10⟩, zw_1519, zw_128, Nat.le_of_ble_eq_true rfl⟩
theorem zd_225 : z_okd za_P za_M 225 0 := ⟨⟨zqa_8.1, zqa_8.2, zqd_1⟩, zw_1531, zw_128, Nat.le_of_ble_eq_true rfl⟩
theorem zd_226 : z_okd za_P za_M 226 1 := ⟨⟨zqa_8.1, zqa_8.2, zqd_10⟩, zw_1535, zw_128, Nat.le_of_ble_eq_true rfl⟩
theorem zd_227 : z_okd za_P za_M 227 0 := ⟨⟨zqa_8.1, zqa_8.2, zqd_8⟩, zw_1527, zw_128, Nat.le_of_ble_eq_true rfl⟩
theorem zd_228 : z_okd za_P za_M 228 1 := ⟨⟨zqa_8.1, zqa_8.2, zqd_10⟩, zw_1539, zw_128, Nat.le_of_ble_eq_true rfl⟩
theorem zd_229 : z_okd za_P za_M 229 0 := ⟨⟨zqa_8.1, zqa_8.2, zqd_8⟩, zw_1552, zw_128, Nat.le_of_ble_eq_true rfl⟩
theorem zd_230 : z_okd za_P za_M 230 1 := ⟨⟨zqa_8.1, zqa_8.2, zqd_10⟩, zw_1556, zw_128, Nat.le_of_ble_eq_true rfl⟩
theorem zd_231 : z_okd za_P za_M 231 1 := ⟨⟨zqa_8.1, zqa_8.2, zqd_10⟩, zw_1564, zw_128, Nat.le_of_ble_eq_true rfl⟩
theorem zd_232 : z_okd za_P za_M 232 2 := ⟨⟨zqa_8.1, zqa_8.2, zqd_17⟩, zw_1568, zw_128, Nat.le_of_ble_eq_true rfl⟩
theorem zd_233 : z_okd za_P za_M 233 1 := ⟨⟨zqa_8.1, zqa_8.2, zqd_10⟩, zw_1572, zw_128, Nat.le_of_ble_eq_true rfl⟩
theorem zd_234 : z_okd za_P za_M 234 0 := ⟨⟨zqa_8.1, zqa_8.2, zqd_8⟩, zw_1576, zw_128, Nat.le_of_ble_eq_true rfl⟩
theorem zd_235 : z_okd za_P za_M 235 0 := ⟨⟨zqa_8.1, zqa_8.2, zqd_8⟩, zw_1580, zw_128, Nat.le_of_ble_eq_true rfl⟩
theorem zd_236 : z_okd za_P za_M 236 1 := ⟨⟨zqa_8.1, zqa_8.2, zqd_10⟩, zw_1584, zw_128, Nat.le_of_ble_eq_true rfl⟩
theorem zd_237 : z_okd za_P za_M 237 1 := ⟨⟨zqa_8.1, zqa_8.2, zqd_10⟩, zw_1588, zw_128, Nat.le_of_ble_eq_true rfl⟩
theorem zd_238 : z_okd za_P za_M 238 0 := ⟨⟨zqa_8.1, zqa_8.2, zqd_8⟩, zw_1592, zw_128, Nat.le_of_ble_eq_true rfl⟩
theorem zd_239 : z_okd za_P za_M 239 1 := ⟨⟨zqa_8.1, zqa_8.2, zqd_10⟩, zw_1596, zw_128, Nat.le_of_ble_eq_true rfl⟩
theorem zd_240 : z_okd za_P za_M 240 0 := ⟨⟨zqa_8.1, zqa_8.2, zqd_8⟩, zw_1604, zw_128, Nat.le_of_ble_eq_true rfl⟩
theorem zd_241 : z_okd za_P za_M 241 0 := ⟨⟨zqa_8.1, zqa_8.2, zqd_8⟩, zw_1608, zw_128, Nat.le_of_ble_eq_true rfl⟩
theorem zd_242 : z_okd za_P za_M 242 0 := ⟨⟨zqa_8.1, zqa_8.2, zqd_8⟩, zw_1612, zw_128, Nat.le_of_ble_eq_true rfl⟩
theorem zd_243 : z_okd za_P za_M 243 0 := ⟨⟨zqa_8.1, zqa_8.2, zqd_8⟩, zw_1616, zw_128, Nat.le_of_ble_eq_true rfl⟩
theorem zd_244 : z_okd za_P za_M 244 0 := ⟨⟨zqa_8.1, zqa_8.2, zqd_8⟩, zw_1620, zw_128, Nat.le_of_ble_eq_true rfl⟩
theorem zd_245 : z_okd za_P za_M 245 0 := ⟨⟨zqa_8.1, zqa_8.2, zqd_8⟩, zw_1624, zw_128, Nat.le_of_ble_eq_true rfl⟩
theorem zd_246 : z_okd za_P za_M 246 0 := ⟨⟨zqa_8.1, zqa_8.2, zqd_8⟩, zw_1628, zw_128, Nat.le_of_ble_eq_true rfl⟩
theorem zd_247 : z_okd za_P za_M 247 1 := ⟨⟨zqa_8.1, zqa_8.2, zqd_10⟩, zw_1636, zw_128, Nat.le_of_ble_eq_true rfl⟩
theorem zd_248 : z_okd za_P za_M 248 0 := ⟨⟨zqa_8.1, zqa_8.2, zqd_8⟩, zw_1632, zw_128, Nat.le_of_ble_eq_true rfl⟩
theorem zd_249 : z_okd za_P za_M 249 0 := ⟨⟨zqa_8.1, zqa_8.2, zqd_8⟩, zw_1640, zw_128, Nat.le_of_ble_eq_true rfl⟩
theorem zd_250 : z_okd za_P za_M 250 1 := ⟨⟨zqa_8.1, zqa_8.2, zqd_10⟩, zw_1644, zw_128, Nat.le_of_ble_eq_true rfl⟩
theorem zd_251 : z_okd za_P za_M 251 2 := ⟨⟨zqa_8.1, zqa_8.2, zqd_6⟩, zw_1652, zw_128, Nat.le_of_ble_eq_true rfl⟩
theorem zd_252 : z_okd za_P za_M 252 4 := ⟨⟨zqa_8.1, zqa_8.2, zqd_23⟩, zw_1648, zw_128, Nat.le_of_ble_eq_true rfl⟩
theorem zd_253 : z_okd za_P za_M 253 0 := ⟨⟨zqa_8.1, zqa_8.2, zqd_8⟩, zw_1656, zw_128, Nat.le_of_ble_eq_true rfl⟩
theorem zd_254 : z_okd za_P za_M 254 1 := ⟨⟨zqa_8.1, zqa_8.2, zqd_5⟩, zw_1664, zw_128, Nat.le_of_ble_eq_true rfl⟩
theorem zd_255 : z_okd za_P za_M 255 1 := ⟨⟨zqa_8.1, zqa_8.2, zqd_10⟩, zw_1660, zw_128, Nat.le_of_ble_eq_true rfl⟩
theorem zd_256 : z_okd za_P za_M 256 1 := ⟨⟨zqa_8.1, zqa_8.2, zqd_10⟩, zw_1668, zw_128, Nat.le_of_ble_eq_true rfl⟩
theorem zd_257 : z_okd za_P za_M 257 2 := ⟨⟨zqa_8.1, zqa_8.2, zqd_6⟩, zw_1680, zw_128, Nat.le_of_ble_eq_true rfl⟩
theorem zd_258 : z_okd za_P za_M 258 2 := ⟨⟨zqa_8.1, zqa_8.2, zqd_17⟩, zw_1676, zw_128, Nat.le_of_ble_eq_true rfl⟩
theorem zd_259 : z_okd za_P za_M 259 1 := ⟨⟨zqa_8.1, zqa_8.2, zqd_10⟩, zw_1672, zw_128, Nat.le_of_ble_eq_true rfl⟩
theorem zd_260 : z_okd za_P za_M 260 1 := ⟨⟨zqa_8.1, zqa_8.2, zqd_10⟩, zw_1684, zw_128, Nat.le_of_ble_eq_true rfl⟩
theorem zd_261 : z_okd za_P za_M 261 0 := ⟨⟨zqa_8.1, zqa_8.2, zqd_8⟩, zw_1688, zw_128, Nat.le_of_ble_eq_true rfl⟩
theorem zd_262 : z_okd za_P za_M 262 1 := ⟨⟨zqa_8.1, zqa_8.2, zqd_10⟩, zw_1692, zw_128, Nat.le_of_ble_eq_true rfl⟩
theorem zd_263 : z_okd za_P za_M 263 1 := ⟨⟨zqa_8.1, zqa_8.2, zqd_10⟩, zw_1696, zw_128, Nat.le_of_ble_eq_true rfl⟩
theorem zd_264 : z_okd za_P za_M 264 2 := ⟨⟨zqa_8.1, zqa_8.2, zqd_17⟩, zw_1708, zw_128, Nat.le_of_ble_eq_true rfl⟩
theorem zd_265 : z_okd za_P za_M 265 1 := ⟨⟨zqa_8.1, zqa_8.2, zqd_10⟩, zw_1700, zw_128, Nat.le_of_ble_eq_true rfl⟩
theorem zd_266 : z_okd za_P za_M 266 0 := ⟨⟨zqa_8.1, zqa_8.2, zqd_4⟩, zw_1716, zw_128, Nat.le_of_ble_eq_true rfl⟩
theorem zd_267 : z_okd za_P za_M 267 0 := ⟨⟨zqa_8.1, zqa_8.2, zqd_8⟩, zw_1720, zw_128, Nat.le_of_ble_eq_true rfl⟩
theorem zd_268 : z_okd za_P za_M 268 0 := ⟨⟨zqa_8.1, zqa_8.2, zqd_4⟩, zw_1724, zw_128, Nat.le_of_ble_eq_true rfl⟩
theorem zd_269 : z_okd za_P za_M 269 0 := ⟨⟨zqa_8.1, zqa_8.2, zqd_4⟩, zw_1728, zw_128, Nat.le_of_ble_eq_true rfl⟩
theorem zd_270 : z_okd za_P za_M 270 0 := ⟨⟨zqa_8.1, zqa_8.2, zqd_8⟩, zw_1736, zw_128, Nat.le_of_ble_eq_true rfl⟩
theorem zd_271 : z_okd za_P za_M 271 0 := ⟨⟨zqa_8.1, zqa_8.2, zqd_8⟩, zw_1740, zw_128, Nat.le_of_ble_eq_true rfl⟩
theorem zd_272 : z_okd za_P za_M 272 0 := ⟨⟨zqa_8.1, zqa_8.2, zqd_8⟩, zw_1744, zw_128, Nat.le_of_ble_eq_true rfl⟩
theorem zd_273 : z_okd za_P za_M 273 0 := ⟨⟨zqa_8.1, zqa_8.2, zqd_8⟩, zw_1752, zw_128, Nat.le_of_ble_eq_true rfl⟩
theorem zd_274 : z_okd za_P za_M 274 0 := ⟨⟨zqa_8.1, zqa_8.2, zqd_8⟩, zw_1760, zw_128, Nat.le_of_ble_eq_true rfl⟩
theorem zd_275 : z_okd za_P za_M 275 0 := ⟨⟨zqa_8.1, zqa_8.2, zqd_8⟩, zw_1764, zw_128, Nat.le_of_ble_eq_true rfl⟩
theorem zd_276 : z_okd za_P za_M 276 0 := ⟨⟨zqa_8.1, zqa_8.2, zqd_8⟩, zw_1772, zw_128, Nat.le_of_ble_eq_true rfl⟩
theorem zd_277 : z_okd za_P za_M 277 1 := ⟨⟨zqa_8.1, zqa_8.2, zqd_24⟩, zw_1776, zw_128, Nat.le_of_ble_eq_true rfl⟩
theorem zd_278 : z_okd za_P za_M 278 1 := ⟨⟨zqa_8.1, zqa_8.2, zqd_24⟩, zw_1784, zw_128, Nat.le_of_ble_eq_true rfl⟩
theorem zd_279 : z_okd za_P za_M 279 2 := ⟨⟨zqa_8.1, zqa_8.2, zqd_17⟩, zw_1792, zw_128, Nat.le_of_ble_eq_true rfl⟩
theorem zd_280 : z_okd za_P za_M 280 0 := ⟨⟨zqa_8.1, zqa_8.2, zqd_8⟩, zw_1796, zw_128, Nat.le_of_ble_eq_true rfl⟩
theorem zd_281 : z_okd za_P za_M 281 1 := ⟨⟨zqa_8.1, zqa_8.2, zqd_10⟩, zw_1800, zw_128, Nat.le_of_ble_eq_true rfl⟩
theorem zd_282 : z_okd za_P za_M 282 2 := ⟨⟨zqa_8.1, zqa_8.2, zqd_17⟩, zw_1804, zw_128, Nat.le_of_ble_eq_true rfl⟩
theorem zd_283 : z_okd za_P za_M 283 0 := ⟨⟨zqa_8.1, zqa_8.2, zqd_4⟩, zw_1808, zw_128, Nat.le_of_ble_eq_true rfl⟩
theorem zd_284 : z_okd za_P za_M 284 0 := ⟨⟨zqa_8.1, zqa_8.2, zqd_8⟩, zw_1812, zw_128, Nat.le_of_ble_eq_true rfl⟩
theorem zd_285 : z_okd za_P za_M 285 0 := ⟨⟨zqa_8.1, zqa_8.2, zqd_35⟩, zw_1816, zw_128, Nat.le_of_ble_eq_true rfl⟩
theorem zd_286 : z_okd za_P za_M 286 0 := ⟨⟨zqa_8.1, zqa_8.2, zqd_36⟩, zw_1820, zw_128, Nat.le_of_ble_eq_true rfl⟩
theorem zd_287 : z_okd za_P za_M 287 0 := ⟨⟨zqa_8.1, zqa_8.2, zqd_8⟩, zw_1825, zw_128, Nat.le_of_ble_eq_true rfl⟩
theorem zd_288 : z_okd za_P za_M 288 1 := ⟨⟨zqa_8.1, zqa_8.2, zqd_3⟩, zw_1837, zw_128, Nat.le_of_ble_eq_true rfl⟩
theorem zd_289 : z_okd za_P za_M 289 1 := ⟨⟨zqa_8.1, zqa_8.2, zqd_3⟩, zw_1841, zw_128, Nat.le_of_ble_eq_true rfl⟩
theorem zd_290 : z_okd za_P za_M 290 2 := ⟨⟨zqa_8.1, zqa_8.2, zqd_12⟩, zw_1833, zw_128, Nat.le_of_ble_eq_true rfl⟩
theorem zd_291 : z_okd za_P za_M 291 0 := ⟨⟨zqa_8.1, zqa_8.2, zqd_8⟩, zw_1829, zw_128, Nat.le_of_ble_eq_true rfl⟩
theorem zd_292 : z_okd za_P za_M 292 1 := ⟨⟨zqa_8.1, zqa_8.2, zqd_10⟩, zw_1845, zw_128, Nat.le_of_ble_eq_true rfl⟩
theorem zd_293 : z_okd za_P za_M 293 0 := ⟨⟨zqa_5.1, zqa_5.2, zqd_8⟩, zw_441, zw_133, Nat.le_of_ble_eq_true rfl⟩
theorem zd_294 : z_okd za_P za_M 294 0 := ⟨⟨zqa_6.1, zqa_6.2, zqd_8⟩, zw_279, zw_124, Nat.le_of_ble_eq_true rfl⟩
theorem zd_295 : z_okd za_P za_M 295 1 := ⟨⟨zqa_6.1, zqa_6.2, zqd_16⟩, zw_289, zw_124, Nat.le_of_ble_eq_true rfl⟩
theorem zd_296 : z_okd za_P za_M 296 0 := ⟨⟨zqa_6.1, zqa_6.2, zqd_27⟩, zw_283, zw_124, Nat.le_of_ble_eq_true rfl⟩
theorem zd_297 : z_okd za_P za_M 297 0 := ⟨⟨zqa_6.1, zqa_6.2, zqd_4⟩, zw_293, zw_124, Nat.le_of_ble_eq_true rfl⟩
theorem zd_298 : z_okd za_P za_M 298 2 := ⟨⟨zqa_6.1, zqa_6.2, zqd_12⟩, zw_299, zw_124, Nat.le_of_ble_eq_true rfl⟩
theorem zd_299 : z_okd za_P za_M 299 2 := ⟨⟨zqa_9.1, zqa_9.2, zqd_28⟩, zw_296, zw_125, Nat.le_of_ble_eq_true rfl⟩
theorem zd_300 : z_okd za_P za_M 300 3 := ⟨⟨zqa_10.1, zqa_10.2, zqd_29⟩, zw_304, zw_126, Nat.le_of_ble_eq_true rfl⟩
theorem zd_301 : z_okd za_P za_M 301 3 := ⟨⟨zqa_11.1, zqa_11.2, zqd_31⟩, zw_798, zw_117, Nat.le_of_ble_eq_true rfl⟩
theorem zd_302 : z_okd za_P za_M 302 3 := ⟨⟨zqa_11.1, zqa_11.2, zqd_31⟩, zw_875, zw_117, Nat.le_of_ble_eq_true rfl⟩
theorem zd_303 : z_okd za_P za_M 303 2 := ⟨⟨zqa_11.1, zqa_11.2, zqd_32⟩, zw_908, zw_117, Nat.le_of_ble_eq_true rfl⟩
theorem zd_304 : z_okd za_P za_M 304 3 := ⟨⟨zqa_11.1, zqa_11.2, zqd_31⟩, zw_917, zw_117, Nat.le_of_ble_eq_true rfl⟩
theorem zd_305 : z_okd za_P za_M 305 3 := ⟨⟨zqa_11.1, zqa_11.2, zqd_31⟩, zw_929, zw_117, Nat.le_of_ble_eq_true rfl⟩
theorem zd_306 : z_okd za_P za_M 306 4 := ⟨⟨zqa_11.1, zqa_11.2, zqd_33⟩, zw_941, zw_117, Nat.le_of_ble_eq_true rfl⟩
theorem zd_307 : z_okd za_P za_M 307 3 := ⟨⟨zqa_11.1, zqa_11.2, zqd_31⟩, zw_954, zw_117, Nat.le_of_ble_eq_true rfl⟩
theorem zd_308 : z_okd za_P za_M 308 2 := ⟨⟨zqa_11.1, zqa_11.2, zqd_32⟩, zw_962, zw_117, Nat.le_of_ble_eq_true rfl⟩
theorem zd_309 : z_okd za_P za_M 309 3 := ⟨⟨zqa_11.1, zqa_11.2, zqd_31⟩, zw_970, zw_117, Nat.le_of_ble_eq_true rfl⟩
theorem zd_310 : z_okd za_P za_M 310 3 := ⟨⟨zqa_11.1, zqa_11.2, zqd_31⟩, zw_982, zw_117, Nat.le_of_ble_eq_true rfl⟩
theorem zd_311 : z_okd za_P za_M 311 2 := ⟨⟨zqa_11.1, zqa_11.2, zqd_32⟩, zw_1013, zw_117, Nat.le_of_ble_eq_true rfl⟩
theorem zd_312 : z_okd za_P za_M 312 3 := ⟨⟨zqa_11.1, zqa_11.2, zqd_31⟩, zw_1021, zw_117, Nat.le_of_ble_eq_true rfl⟩
theorem zd_313 : z_okd za_P za_M 313 2 := ⟨⟨zqa_11.1, zqa_11.2, zqd_32⟩, zw_1030, zw_117, Nat.le_of_ble_eq_true rfl⟩
theorem zd_314 : z_okd za_P za_M 314 2 := ⟨⟨zqa_11.1, zqa_11.2, zqd_32⟩, zw_1040, zw_117, Nat.le_of_ble_eq_true rfl⟩
theorem zd_315 : z_okd za_P za_M 315 6 := ⟨⟨zqa_11.1, zqa_11.2, zqd_34⟩, zw_1064, zw_117, Nat.le_of_ble_eq_true rfl⟩
theorem zd_316 : z_okd za_P za_M 316 3 := ⟨⟨zqa_11.1, zqa_11.2, zqd_31⟩, zw_1071, zw_117, Nat.le_of_ble_eq_true rfl⟩
theorem zd_317 : z_okd za_P za_M 317 3 := ⟨⟨zqa_11.1, zqa_11.2, zqd_31⟩, zw_1078, zw_117, Nat.le_of_ble_eq_true rfl⟩
theorem zd_318 : z_okd za_P za_M 318 3 := ⟨⟨zqa_11.1, zqa_11.2, zqd_31⟩, zw_1085, zw_117, Nat.le_of_ble_eq_true rfl⟩
theorem zd_319 : z_okd za_P za_M 319 3 := ⟨⟨zqa_11.1, zqa_11.2, zqd_31⟩, zw_1092, zw_117, Nat.le_of_ble_eq_true rfl⟩
theorem zd_320 : z_okd za_P za_M 320 3 := ⟨⟨zqa_11.1, zqa_11.2, zqd_31⟩, zw_1100, zw_117, Nat.le_of_ble_eq_true rfl⟩
theorem zd_321 : z_okd za_P za_M 321 3 := ⟨⟨zqa_11.1, zqa_11.2, zqd_31⟩, zw_1107, zw_117, Nat.le_of_ble_eq_true rfl⟩
theorem zd_322 : z_okd za_P za_M 322 3 := ⟨⟨zqa_11.1, zqa_11.2, zqd_31⟩, zw_1126, zw_117, Nat.le_of_ble_eq_true rfl⟩
theorem zd_323 : z_okd za_P za_M 323 3 := ⟨⟨zqa_11.1, zqa_11.2, zqd_31⟩, zw_1138, zw_117, Nat.le_of_ble_eq_true rfl⟩
theorem zd_324 : z_okd za_P za_M 324 4 := ⟨⟨zqa_11.1, zqa_11.2, zqd_33⟩, zw_1145, zw_117, Nat.le_of_ble_eq_true rfl⟩
theorem zd_325 : z_okd za_P za_M 325 3 := ⟨⟨zqa_11.1, zqa_11.2, zqd_31⟩, zw_1158, zw_117, Nat.le_of_ble_eq_true rfl⟩
theorem zd_326 : z_okd za_P za_M 326 4 := ⟨⟨zqa_11.1, zqa_11.2, zqd_33⟩, zw_1165, zw_117, Nat.le_of_ble_eq_true rfl⟩
end
section
/-! The words of throws, and of classes, out of short lists. -/
theorem z_n1 {w : Cond} (h : w ∈ tables_1_1) : w ∈ lw_tbl := List.mem_append_right _ (show w ∈ tables_1 from List.mem_append_left _ (h))
theorem z_n2 {w : Cond} (h : w ∈ tables_1_2) : w ∈ lw_tbl := List.mem_append_right _ (show w ∈ tables_1 from List.mem_append_right _ (List.mem_append_left _ (h)))
theorem z_n3 {w : Cond} (h : w ∈ tables_1_3) : w ∈ lw_tbl := List.mem_append_right _ (show w ∈ tables_1 from List.mem_append_right _ (List.mem_append_right _ (List.mem_append_left _ (h))))
theorem z_n4 {w : Cond} (h : w ∈ tables_1_4) : w ∈ lw_tbl := List.mem_append_right _ (show w ∈ tables_1 from List.mem_append_right _ (List.mem_append_right _ (List.mem_append_right _ (List.mem_append_left _ (h)))))
theorem z_n5 {w : Cond} (h : w ∈ tables_1_5) : w ∈ lw_tbl := List.mem_append_right _ (show w ∈ tables_1 from List.mem_append_right _ (List.mem_append_right _ (List.mem_append_right _ (List.mem_append_right _ (List.mem_append_left _ (h))))))
theorem z_n6 {w : Cond} (h : w ∈ tables_1_6) : w ∈ lw_tbl := List.mem_append_right _ (show w ∈ tables_1 from List.mem_append_right _ (List.mem_append_right _ (List.mem_append_right _ (List.mem_append_right _ (List.mem_append_right _ (List.mem_append_left _ (h)))))))
theorem z_n7 {w : Cond} (h : w ∈ tables_1_7) : w ∈ lw_tbl := List.mem_append_right _ (show w ∈ tables_1 from List.mem_append_right _ (List.mem_append_right _ (List.mem_append_right _ (List.mem_append_right _ (List.mem_append_right _ (List.mem_append_right _ (List.mem_append_left _ (h))))))))
theorem z_n8 {w : Cond} (h : w ∈ tables_1_8) : w ∈ lw_tbl := List.mem_append_right _ (show w ∈ tables_1 from List.mem_append_right _ (List.mem_append_right _ (List.mem_append_right _ (List.mem_append_right _ (List.mem_append_right _ (List.mem_append_right _ (List.mem_append_right _ (h))))))))
theorem z_n0 (i : Nat) {w : Cond} (h : lw_tbl[i]? = some w) : w ∈ lw_tbl := List.mem_of_getElem? h
def zcw : List Cond := [Jvm.Cond.selects "java/lang/Throwable" ({ cls := "java/lang/Throwable", name := "fillInStackTrace", desc := "(I)Ljava/lang/Throwable;" } : Jvm.MethodName) ({ cls := "java/lang/Throwable", name := "fillInStackTrace", desc := "(I)Ljava/lang/Throwable;" } : Jvm.MethodName), Jvm.Cond.initialized "java/lang/Math", Jvm.Cond.initialized "java/lang/String", Jvm.Cond.initialized "java/lang/StringLatin1", Jvm.Cond.initialized "java/lang/StringUTF16", Jvm.Cond.initialized "java/lang/Throwable", Jvm.Cond.initialized "java/lang/Exception", Jvm.Cond.initialized "java/lang/RuntimeException", Jvm.Cond.initialized "java/lang/IllegalArgumentException", Jvm.Cond.initialized "java/lang/Enum", Jvm.Cond.initialized "java/lang/IllegalStateException", Jvm.Cond.initialized "java/lang/IndexOutOfBoundsException", Jvm.Cond.initialized "java/util/NoSuchElementException", Jvm.Cond.methodLink "LyndonBench" (3 : Nat) ({ cls := "java/lang/Object", name := "<init>", desc := "()V" } : Jvm.MethodName), Jvm.Cond.instanceMethod ({ cls := "java/lang/Object", name := "<init>", desc := "()V" } : Jvm.MethodName), Jvm.Cond.code ({ cls := "java/lang/Object", name := "<init>", desc := "()V" } : Jvm.MethodName) object_method_1_code (1 : Nat) (Option.none : Option Jvm.ClassFile.FieldType), Jvm.Cond.methodLink "LyndonBench$State" (3 : Nat) ({ cls := "java/lang/Object", name := "<init>", desc := "()V" } : Jvm.MethodName), Jvm.Cond.methodLink "LyndonBench$Word" (3 : Nat) ({ cls := "java/lang/Object", name := "<init>", desc := "()V" } : Jvm.MethodName), Jvm.Cond.methodLink "LyndonBench$Word" (15 : Nat) ({ cls := "java/lang/Math", name := "max", desc := "(II)I" } : Jvm.MethodName), Jvm.Cond.static ({ cls := "java/lang/Math", name := "max", desc := "(II)I" } : Jvm.MethodName), Jvm.Cond.code ({ cls := "java/lang/Math", name := "max", desc := "(II)I" } : Jvm.MethodName) prog_18_method_65_code (2 : Nat) (Option.some Jvm.ClassFile.FieldType.int), Jvm.Cond.superclass "LyndonBench$Word" "java/lang/Object", Jvm.Cond.superclass "LyndonBench$State" "java/lang/Object", Jvm.Cond.methodLink "LyndonBench$History" (3 : Nat) ({ cls := "java/lang/Object", name := "<init>", desc := "()V" } : Jvm.MethodName), Jvm.Cond.superclass "LyndonBench$History" "java/lang/Object", Jvm.Cond.methodLink "LyndonBench$Script" (3 : Nat) ({ cls := "java/lang/Object", name := "<init>", desc := "()V" } : Jvm.MethodName), Jvm.Cond.superclass "LyndonBench$Script" "java/lang/Object", Jvm.Cond.methodLink "LyndonBench$Word" (29 : Nat) ({ cls := "java/lang/String", name := "length", desc := "()I" } : Jvm.MethodName), Jvm.Cond.instanceMethod ({ cls := "java/lang/String", name := "length", desc := "()I" } : Jvm.MethodName), Jvm.Cond.selects "java/lang/String" ({ cls := "java/lang/String", name := "length", desc := "()I" } : Jvm.MethodName) ({ cls := "java/lang/String", name := "length", desc := "()I" } : Jvm.MethodName), Jvm.Cond.code ({ cls := "java/lang/String", name := "length", desc := "()I" } : Jvm.MethodName) prog_20_method_54_code (1 : Nat) (Option.some Jvm.ClassFile.FieldType.int), Jvm.Cond.methodLink "java/lang/String" (335 : Nat) ({ cls := "java/lang/String", name := "coder", desc := "()B" } : Jvm.MethodName), Jvm.Cond.instanceMethod ({ cls := "java/lang/String", name := "coder", desc := "()B" } : Jvm.MethodName), Jvm.Cond.selects "java/lang/String" ({ cls := "java/lang/String", name := "coder", desc := "()B" } : Jvm.MethodName) ({ cls := "java/lang/String", name := "coder", desc := "()B" } : Jvm.MethodName), Jvm.Cond.code ({ cls := "java/lang/String", name := "coder", desc := "()B" } : Jvm.MethodName) prog_20_method_152_code (1 : Nat) (Option.some Jvm.ClassFile.FieldType.byte), Jvm.Cond.fieldLink "java/lang/String" (38 : Nat) "java/lang/String" "COMPACT_STRINGS" "Z", Jvm.Cond.laysStatic "java/lang/String" "COMPACT_STRINGS" "Z", Jvm.Cond.methodLink "LyndonBench$Word" (35 : Nat) ({ cls := "java/lang/String", name := "charAt", desc := "(I)C" } : Jvm.MethodName), Jvm.Cond.instanceMethod ({ cls := "java/lang/String", name := "charAt", desc := "(I)C" } : Jvm.MethodName), Jvm.Cond.selects "java/lang/String" ({ cls := "java/lang/String", name := "charAt", desc := "(I)C" } : Jvm.MethodName) ({ cls := "java/lang/String", name := "charAt", desc := "(I)C" } : Jvm.MethodName), Jvm.Cond.code ({ cls := "java/lang/String", name := "charAt", desc := "(I)C" } : Jvm.MethodName) prog_20_method_56_code (2 : Nat) (Option.some Jvm.ClassFile.FieldType.char), Jvm.Cond.methodLink "java/lang/String" (492 : Nat) ({ cls := "java/lang/String", name := "isLatin1", desc := "()Z" } : Jvm.MethodName), Jvm.Cond.instanceMethod ({ cls := "java/lang/String", name := "isLatin1", desc := "()Z" } : Jvm.MethodName), Jvm.Cond.selects "java/lang/String" ({ cls := "java/lang/String", name := "isLatin1", desc := "()Z" } : Jvm.MethodName) ({ cls := "java/lang/String", name := "isLatin1", desc := "()Z" } : Jvm.MethodName), Jvm.Cond.code ({ cls := "java/lang/String", name := "isLatin1", desc := "()Z" } : Jvm.MethodName) prog_20_method_154_code (1 : Nat) (Option.some Jvm.ClassFile.FieldType.boolean), Jvm.Cond.methodLink "java/lang/String" (495 : Nat) ({ cls := "java/lang/StringLatin1", name := "charAt", desc := "([BI)C" } : Jvm.MethodName), Jvm.Cond.static ({ cls := "java/lang/StringLatin1", name := "charAt", desc := "([BI)C" } : Jvm.MethodName), Jvm.Cond.code ({ cls := "java/lang/StringLatin1", name := "charAt", desc := "([BI)C" } : Jvm.MethodName) prog_21_method_2_code (2 : Nat) (Option.some Jvm.ClassFile.FieldType.char), Jvm.Cond.methodLink "java/lang/StringLatin1" (9 : Nat) ({ cls := "java/lang/String", name := "checkIndex", desc := "(II)V" } : Jvm.MethodName), Jvm.Cond.static ({ cls := "java/lang/String", name := "checkIndex", desc := "(II)V" } : Jvm.MethodName), Jvm.Cond.code ({ cls := "java/lang/String", name := "checkIndex", desc := "(II)V" } : Jvm.MethodName) prog_20_method_155_code (2 : Nat) (Option.none : Option Jvm.ClassFile.FieldType), Jvm.Cond.fieldLink "java/lang/String" (1053 : Nat) "jdk/internal/util/Preconditions" "SIOOBE_FORMATTER" "Ljava/util/function/BiFunction;", Jvm.Cond.methodLink "java/lang/String" (1059 : Nat) ({ cls := "jdk/internal/util/Preconditions", name := "checkIndex", desc := "(IILjava/util/function/BiFunction;)I" } : Jvm.MethodName), Jvm.Cond.methodLink "java/lang/String" (498 : Nat) ({ cls := "java/lang/StringUTF16", name := "charAt", desc := "([BI)C" } : Jvm.MethodName), Jvm.Cond.static ({ cls := "java/lang/StringUTF16", name := "charAt", desc := "([BI)C" } : Jvm.MethodName), Jvm.Cond.code ({ cls := "java/lang/StringUTF16", name := "charAt", desc := "([BI)C" } : Jvm.MethodName) prog_22_method_83_code (2 : Nat) (Option.some Jvm.ClassFile.FieldType.char), Jvm.Cond.methodLink "java/lang/StringUTF16" (67 : Nat) ({ cls := "java/lang/StringUTF16", name := "checkIndex", desc := "(I[B)V" } : Jvm.MethodName), Jvm.Cond.static ({ cls := "java/lang/StringUTF16", name := "checkIndex", desc := "(I[B)V" } : Jvm.MethodName), Jvm.Cond.code ({ cls := "java/lang/StringUTF16", name := "checkIndex", desc := "(I[B)V" } : Jvm.MethodName) prog_22_method_91_code (2 : Nat) (Option.none : Option Jvm.ClassFile.FieldType), Jvm.Cond.methodLink "java/lang/StringUTF16" (48 : Nat) ({ cls := "java/lang/StringUTF16", name := "length", desc := "([B)I" } : Jvm.MethodName), Jvm.Cond.static ({ cls := "java/lang/StringUTF16", name := "length", desc := "([B)I" } : Jvm.MethodName), Jvm.Cond.code ({ cls := "java/lang/StringUTF16", name := "length", desc := "([B)I" } : Jvm.MethodName) prog_22_method_6_code (1 : Nat) (Option.some Jvm.ClassFile.FieldType.int), Jvm.Cond.methodLink "java/lang/StringUTF16" (414 : Nat) ({ cls := "java/lang/String", name := "checkIndex", desc := "(II)V" } : Jvm.MethodName), Jvm.Cond.methodLink "java/lang/StringUTF16" (71 : Nat) ({ cls := "java/lang/StringUTF16", name := "getChar", desc := "([BI)C" } : Jvm.MethodName), Jvm.Cond.static ({ cls := "java/lang/StringUTF16", name := "getChar", desc := "([BI)C" } : Jvm.MethodName), Jvm.Cond.code ({ cls := "java/lang/StringUTF16", name := "getChar", desc := "([BI)C" } : Jvm.MethodName) prog_22_method_5_code (2 : Nat) (Option.some Jvm.ClassFile.FieldType.char), Jvm.Cond.fieldLink "java/lang/StringUTF16" (44 : Nat) "java/lang/StringUTF16" "$assertionsDisabled" "Z", Jvm.Cond.laysStatic "java/lang/StringUTF16" "$assertionsDisabled" "Z", Jvm.Cond.fieldLink "java/lang/StringUTF16" (59 : Nat) "java/lang/StringUTF16" "HI_BYTE_SHIFT" "I", Jvm.Cond.laysStatic "java/lang/StringUTF16" "HI_BYTE_SHIFT" "I", Jvm.Cond.fieldLink "java/lang/StringUTF16" (63 : Nat) "java/lang/StringUTF16" "LO_BYTE_SHIFT" "I", Jvm.Cond.laysStatic "java/lang/StringUTF16" "LO_BYTE_SHIFT" "I", Jvm.Cond.superclass "LyndonBench" "java/lang/Object", Jvm.Cond.sameMethod "LyndonBench$Command" "java/lang/Enum" "ordinal" "()I", Jvm.Cond.selects "LyndonBench$Command" ({ cls := "LyndonBench$Command", name := "ordinal", desc := "()I" } : Jvm.MethodName) ({ cls := "java/lang/Enum", name := "ordinal", desc := "()I" } : Jvm.MethodName), Jvm.Cond.instanceMethod ({ cls := "java/lang/Enum", name := "ordinal", desc := "()I" } : Jvm.MethodName), Jvm.Cond.code ({ cls := "java/lang/Enum", name := "ordinal", desc := "()I" } : Jvm.MethodName) prog_13_method_2_code (1 : Nat) (Option.some Jvm.ClassFile.FieldType.int), Jvm.Cond.classLink "LyndonBenchLaw" (13 : Nat) "java/lang/IllegalArgumentException", Jvm.Cond.classLink "LyndonBench" (77 : Nat) "java/lang/IllegalArgumentException", Jvm.Cond.instantiable "java/lang/IllegalArgumentException" (6 : Nat), Jvm.Cond.selects "java/lang/IllegalArgumentException" ({ cls := "java/lang/Throwable", name := "fillInStackTrace", desc := "(I)Ljava/lang/Throwable;" } : Jvm.MethodName) ({ cls := "java/lang/Throwable", name := "fillInStackTrace", desc := "(I)Ljava/lang/Throwable;" } : Jvm.MethodName), Jvm.Cond.selects "java/lang/IllegalArgumentException" ({ cls := "java/lang/Throwable", name := "fillInStackTrace", desc := "()Ljava/lang/Throwable;" } : Jvm.MethodName) ({ cls := "java/lang/Throwable", name := "fillInStackTrace", desc := "()Ljava/lang/Throwable;" } : Jvm.MethodName), Jvm.Cond.lays "java/lang/IllegalArgumentException" "java/lang/Throwable" "cause" "Ljava/lang/Throwable;", Jvm.Cond.lays "java/lang/Throwable" "java/lang/Throwable" "cause" "Ljava/lang/Throwable;", Jvm.Cond.lays "java/lang/IllegalArgumentException" "java/lang/Throwable" "stackTrace" "[Ljava/lang/StackTraceElement;", Jvm.Cond.lays "java/lang/Throwable" "java/lang/Throwable" "stackTrace" "[Ljava/lang/StackTraceElement;", Jvm.Cond.lays "java/lang/IllegalArgumentException" "java/lang/Throwable" "suppressedExceptions" "Ljava/util/List;", Jvm.Cond.lays "java/lang/Throwable" "java/lang/Throwable" "suppressedExceptions" "Ljava/util/List;", Jvm.Cond.lays "java/lang/IllegalArgumentException" "java/lang/Throwable" "detailMessage" "Ljava/lang/String;", Jvm.Cond.lays "java/lang/Throwable" "java/lang/Throwable" "detailMessage" "Ljava/lang/String;", Jvm.Cond.lays "java/lang/IllegalArgumentException" "java/lang/Throwable" "backtrace" "Ljava/lang/Object;", Jvm.Cond.lays "java/lang/Throwable" "java/lang/Throwable" "backtrace" "Ljava/lang/Object;", Jvm.Cond.fieldLink "java/lang/Throwable" (198 : Nat) "java/lang/Throwable" "backtrace" "Ljava/lang/Object;", Jvm.Cond.superclass "java/lang/Throwable" "java/lang/Object", Jvm.Cond.instanceMethod ({ cls := "java/lang/Throwable", name := "<init>", desc := "()V" } : Jvm.MethodName), Jvm.Cond.code ({ cls := "java/lang/Throwable", name := "<init>", desc := "()V" } : Jvm.MethodName) prog_23_method_1_code (1 : Nat) (Option.none : Option Jvm.ClassFile.FieldType), Jvm.Cond.methodLink "java/lang/Throwable" (1 : Nat) ({ cls := "java/lang/Object", name := "<init>", desc := "()V" } : Jvm.MethodName), Jvm.Cond.fieldLink "java/lang/Throwable" (13 : Nat) "java/lang/Throwable" "UNASSIGNED_STACK" "[Ljava/lang/StackTraceElement;", Jvm.Cond.laysStatic "java/lang/Throwable" "UNASSIGNED_STACK" "[Ljava/lang/StackTraceElement;", Jvm.Cond.fieldLink "java/lang/Throwable" (20 : Nat) "java/lang/Throwable" "SUPPRESSED_SENTINEL" "Ljava/util/List;", Jvm.Cond.laysStatic "java/lang/Throwable" "SUPPRESSED_SENTINEL" "Ljava/util/List;", Jvm.Cond.methodLink "java/lang/Throwable" (27 : Nat) ({ cls := "java/lang/Throwable", name := "fillInStackTrace", desc := "()Ljava/lang/Throwable;" } : Jvm.MethodName), Jvm.Cond.instanceMethod ({ cls := "java/lang/Throwable", name := "fillInStackTrace", desc := "()Ljava/lang/Throwable;" } : Jvm.MethodName), Jvm.Cond.sameMethod "java/lang/Throwable" "java/lang/Throwable" "fillInStackTrace" "()Ljava/lang/Throwable;", Jvm.Cond.selects "java/lang/IllegalStateException" ({ cls := "java/lang/Throwable", name := "fillInStackTrace", desc := "()Ljava/lang/Throwable;" } : Jvm.MethodName) ({ cls := "java/lang/Throwable", name := "fillInStackTrace", desc := "()Ljava/lang/Throwable;" } : Jvm.MethodName), Jvm.Cond.selects "java/lang/IndexOutOfBoundsException" ({ cls := "java/lang/Throwable", name := "fillInStackTrace", desc := "()Ljava/lang/Throwable;" } : Jvm.MethodName) ({ cls := "java/lang/Throwable", name := "fillInStackTrace", desc := "()Ljava/lang/Throwable;" } : Jvm.MethodName), Jvm.Cond.selects "java/util/NoSuchElementException" ({ cls := "java/lang/Throwable", name := "fillInStackTrace", desc := "()Ljava/lang/Throwable;" } : Jvm.MethodName) ({ cls := "java/lang/Throwable", name := "fillInStackTrace", desc := "()Ljava/lang/Throwable;" } : Jvm.MethodName), Jvm.Cond.codeSync ({ cls := "java/lang/Throwable", name := "fillInStackTrace", desc := "()Ljava/lang/Throwable;" } : Jvm.MethodName) prog_23_method_18_code (1 : Nat) (Option.some (Jvm.ClassFile.FieldType.object "java/lang/Throwable")), Jvm.Cond.methodLink "java/lang/Throwable" (202 : Nat) ({ cls := "java/lang/Throwable", name := "fillInStackTrace", desc := "(I)Ljava/lang/Throwable;" } : Jvm.MethodName), Jvm.Cond.privateMethod ({ cls := "java/lang/Throwable", name := "fillInStackTrace", desc := "(I)Ljava/lang/Throwable;" } : Jvm.MethodName), Jvm.Cond.instanceMethod ({ cls := "java/lang/Throwable", name := "fillInStackTrace", desc := "(I)Ljava/lang/Throwable;" } : Jvm.MethodName), Jvm.Cond.instantiable "java/lang/Throwable" (6 : Nat), Jvm.Cond.native ({ cls := "java/lang/Throwable", name := "fillInStackTrace", desc := "(I)Ljava/lang/Throwable;" } : Jvm.MethodName), Jvm.Cond.methodLink "LyndonBench" (81 : Nat) ({ cls := "java/lang/IllegalArgumentException", name := "<init>", desc := "(Ljava/lang/String;)V" } : Jvm.MethodName), Jvm.Cond.instanceMethod ({ cls := "java/lang/IllegalArgumentException", name := "<init>", desc := "(Ljava/lang/String;)V" } : Jvm.MethodName), Jvm.Cond.code ({ cls := "java/lang/IllegalArgumentException", name := "<init>", desc := "(Ljava/lang/String;)V" } : Jvm.MethodName) prog_15_method_2_code (2 : Nat) (Option.none : Option Jvm.ClassFile.FieldType), Jvm.Cond.methodLink "java/lang/IllegalArgumentException" (7 : Nat) ({ cls := "java/lang/RuntimeException", name := "<init>", desc := "(Ljava/lang/String;)V" } : Jvm.MethodName), Jvm.Cond.instanceMethod ({ cls := "java/lang/RuntimeException", name := "<init>", desc := "(Ljava/lang/String;)V" } : Jvm.MethodName), Jvm.Cond.code ({ cls := "java/lang/RuntimeException", name := "<init>", desc := "(Ljava/lang/String;)V" } : Jvm.MethodName) prog_19_method_2_code (2 : Nat) (Option.none : Option Jvm.ClassFile.FieldType), Jvm.Cond.methodLink "java/lang/RuntimeException" (7 : Nat) ({ cls := "java/lang/Exception", name := "<init>", desc := "(Ljava/lang/String;)V" } : Jvm.MethodName), Jvm.Cond.instanceMethod ({ cls := "java/lang/Exception", name := "<init>", desc := "(Ljava/lang/String;)V" } : Jvm.MethodName), Jvm.Cond.code ({ cls := "java/lang/Exception", name := "<init>", desc := "(Ljava/lang/String;)V" } : Jvm.MethodName) prog_14_method_2_code (2 : Nat) (Option.none : Option Jvm.ClassFile.FieldType), Jvm.Cond.methodLink "java/lang/Exception" (7 : Nat) ({ cls := "java/lang/Throwable", name := "<init>", desc := "(Ljava/lang/String;)V" } : Jvm.MethodName), Jvm.Cond.instanceMethod ({ cls := "java/lang/Throwable", name := "<init>", desc := "(Ljava/lang/String;)V" } : Jvm.MethodName), Jvm.Cond.code ({ cls := "java/lang/Throwable", name := "<init>", desc := "(Ljava/lang/String;)V" } : Jvm.MethodName) prog_23_method_2_code (2 : Nat) (Option.none : Option Jvm.ClassFile.FieldType), Jvm.Cond.fieldLink "java/lang/Throwable" (198 : Nat) "java/lang/Throwable" "backtrace" "Ljava/lang/Object;", Jvm.Cond.fieldLink "java/lang/Throwable" (31 : Nat) "java/lang/Throwable" "detailMessage" "Ljava/lang/String;", Jvm.Cond.fieldLink "java/lang/Throwable" (7 : Nat) "java/lang/Throwable" "cause" "Ljava/lang/Throwable;", Jvm.Cond.fieldLink "java/lang/Throwable" (17 : Nat) "java/lang/Throwable" "stackTrace" "[Ljava/lang/StackTraceElement;", Jvm.Cond.fieldLink "java/lang/Throwable" (24 : Nat) "java/lang/Throwable" "suppressedExceptions" "Ljava/util/List;", Jvm.Cond.soleField "java/lang/Throwable" "backtrace", Jvm.Cond.soleField "java/lang/Throwable" "detailMessage", Jvm.Cond.soleField "java/lang/Throwable" "cause", Jvm.Cond.soleField "java/lang/Throwable" "stackTrace", Jvm.Cond.lays "java/lang/IllegalArgumentException" "java/lang/Throwable" "depth" "I", Jvm.Cond.soleField "java/lang/Throwable" "depth", Jvm.Cond.soleField "java/lang/Throwable" "suppressedExceptions", Jvm.Cond.superclass "java/lang/IllegalArgumentException" "java/lang/RuntimeException", Jvm.Cond.classLink "LyndonBenchLaw" (18 : Nat) "java/lang/IllegalStateException", Jvm.Cond.classLink "LyndonBench" (108 : Nat) "java/lang/IllegalStateException", Jvm.Cond.instantiable "java/lang/IllegalStateException" (6 : Nat), Jvm.Cond.selects "java/lang/IllegalStateException" ({ cls := "java/lang/Throwable", name := "fillInStackTrace", desc := "(I)Ljava/lang/Throwable;" } : Jvm.MethodName) ({ cls := "java/lang/Throwable", name := "fillInStackTrace", desc := "(I)Ljava/lang/Throwable;" } : Jvm.MethodName), Jvm.Cond.lays "java/lang/IllegalStateException" "java/lang/Throwable" "cause" "Ljava/lang/Throwable;", Jvm.Cond.lays "java/lang/IllegalStateException" "java/lang/Throwable" "stackTrace" "[Ljava/lang/StackTraceElement;", Jvm.Cond.lays "java/lang/IllegalStateException" "java/lang/Throwable" "suppressedExceptions" "Ljava/util/List;", Jvm.Cond.lays "java/lang/IllegalStateException" "java/lang/Throwable" "detailMessage" "Ljava/lang/String;", Jvm.Cond.lays "java/lang/IllegalStateException" "java/lang/Throwable" "backtrace" "Ljava/lang/Object;", Jvm.Cond.methodLink "LyndonBench" (112 : Nat) ({ cls := "java/lang/IllegalStateException", name := "<init>", desc := "(Ljava/lang/String;)V" } : Jvm.MethodName), Jvm.Cond.instanceMethod ({ cls := "java/lang/IllegalStateException", name := "<init>", desc := "(Ljava/lang/String;)V" } : Jvm.MethodName), Jvm.Cond.code ({ cls := "java/lang/IllegalStateException", name := "<init>", desc := "(Ljava/lang/String;)V" } : Jvm.MethodName) prog_16_method_2_code (2 : Nat) (Option.none : Option Jvm.ClassFile.FieldType), Jvm.Cond.methodLink "java/lang/IllegalStateException" (7 : Nat) ({ cls := "java/lang/RuntimeException", name := "<init>", desc := "(Ljava/lang/String;)V" } : Jvm.MethodName), Jvm.Cond.lays "java/lang/IllegalStateException" "java/lang/Throwable" "depth" "I", Jvm.Cond.superclass "java/lang/IllegalStateException" "java/lang/RuntimeException", Jvm.Cond.classLink "LyndonBenchLaw" (46 : Nat) "java/lang/IndexOutOfBoundsException", Jvm.Cond.classLink "LyndonBench" (192 : Nat) "java/lang/IndexOutOfBoundsException", Jvm.Cond.instantiable "java/lang/IndexOutOfBoundsException" (6 : Nat), Jvm.Cond.selects "java/lang/IndexOutOfBoundsException" ({ cls := "java/lang/Throwable", name := "fillInStackTrace", desc := "(I)Ljava/lang/Throwable;" } : Jvm.MethodName) ({ cls := "java/lang/Throwable", name := "fillInStackTrace", desc := "(I)Ljava/lang/Throwable;" } : Jvm.MethodName), Jvm.Cond.lays "java/lang/IndexOutOfBoundsException" "java/lang/Throwable" "cause" "Ljava/lang/Throwable;", Jvm.Cond.lays "java/lang/IndexOutOfBoundsException" "java/lang/Throwable" "stackTrace" "[Ljava/lang/StackTraceElement;", Jvm.Cond.lays "java/lang/IndexOutOfBoundsException" "java/lang/Throwable" "suppressedExceptions" "Ljava/util/List;", Jvm.Cond.lays "java/lang/IndexOutOfBoundsException" "java/lang/Throwable" "detailMessage" "Ljava/lang/String;", Jvm.Cond.lays "java/lang/IndexOutOfBoundsException" "java/lang/Throwable" "backtrace" "Ljava/lang/Object;", Jvm.Cond.methodLink "LyndonBench" (196 : Nat) ({ cls := "java/lang/IndexOutOfBoundsException", name := "<init>", desc := "(Ljava/lang/String;)V" } : Jvm.MethodName), Jvm.Cond.instanceMethod ({ cls := "java/lang/IndexOutOfBoundsException", name := "<init>", desc := "(Ljava/lang/String;)V" } : Jvm.MethodName), Jvm.Cond.code ({ cls := "java/lang/IndexOutOfBoundsException", name := "<init>", desc := "(Ljava/lang/String;)V" } : Jvm.MethodName) prog_17_method_2_code (2 : Nat) (Option.none : Option Jvm.ClassFile.FieldType), Jvm.Cond.methodLink "java/lang/IndexOutOfBoundsException" (7 : Nat) ({ cls := "java/lang/RuntimeException", name := "<init>", desc := "(Ljava/lang/String;)V" } : Jvm.MethodName), Jvm.Cond.lays "java/lang/IndexOutOfBoundsException" "java/lang/Throwable" "depth" "I", Jvm.Cond.superclass "java/lang/IndexOutOfBoundsException" "java/lang/RuntimeException", Jvm.Cond.classLink "LyndonBenchLaw" (60 : Nat) "java/util/NoSuchElementException", Jvm.Cond.classLink "LyndonBench" (215 : Nat) "java/util/NoSuchElementException", Jvm.Cond.instantiable "java/util/NoSuchElementException" (6 : Nat), Jvm.Cond.selects "java/util/NoSuchElementException" ({ cls := "java/lang/Throwable", name := "fillInStackTrace", desc := "(I)Ljava/lang/Throwable;" } : Jvm.MethodName) ({ cls := "java/lang/Throwable", name := "fillInStackTrace", desc := "(I)Ljava/lang/Throwable;" } : Jvm.MethodName), Jvm.Cond.lays "java/util/NoSuchElementException" "java/lang/Throwable" "cause" "Ljava/lang/Throwable;", Jvm.Cond.lays "java/util/NoSuchElementException" "java/lang/Throwable" "stackTrace" "[Ljava/lang/StackTraceElement;", Jvm.Cond.lays "java/util/NoSuchElementException" "java/lang/Throwable" "suppressedExceptions" "Ljava/util/List;", Jvm.Cond.lays "java/util/NoSuchElementException" "java/lang/Throwable" "detailMessage" "Ljava/lang/String;", Jvm.Cond.lays "java/util/NoSuchElementException" "java/lang/Throwable" "backtrace" "Ljava/lang/Object;", Jvm.Cond.methodLink "LyndonBench" (219 : Nat) ({ cls := "java/util/NoSuchElementException", name := "<init>", desc := "(Ljava/lang/String;)V" } : Jvm.MethodName), Jvm.Cond.instanceMethod ({ cls := "java/util/NoSuchElementException", name := "<init>", desc := "(Ljava/lang/String;)V" } : Jvm.MethodName), Jvm.Cond.code ({ cls := "java/util/NoSuchElementException", name := "<init>", desc := "(Ljava/lang/String;)V" } : Jvm.MethodName) prog_26_method_4_code (2 : Nat) (Option.none : Option Jvm.ClassFile.FieldType), Jvm.Cond.methodLink "java/util/NoSuchElementException" (13 : Nat) ({ cls := "java/lang/RuntimeException", name := "<init>", desc := "(Ljava/lang/String;)V" } : Jvm.MethodName), Jvm.Cond.lays "java/util/NoSuchElementException" "java/lang/Throwable" "depth" "I", Jvm.Cond.superclass "java/util/NoSuchElementException" "java/lang/RuntimeException", Jvm.Cond.methodLink "LyndonBenchModel" (1 : Nat) ({ cls := "java/lang/Object", name := "<init>", desc := "()V" } : Jvm.MethodName), Jvm.Cond.methodLink "LyndonBenchModel" (140 : Nat) ({ cls := "java/lang/String", name := "length", desc := "()I" } : Jvm.MethodName), Jvm.Cond.methodLink "LyndonBenchModel" (148 : Nat) ({ cls := "java/lang/String", name := "charAt", desc := "(I)C" } : Jvm.MethodName), Jvm.Cond.superclass "LyndonBenchModel" "java/lang/Object", Jvm.Cond.methodLink "LyndonBenchModel" (135 : Nat) ({ cls := "java/lang/Math", name := "max", desc := "(II)I" } : Jvm.MethodName), Jvm.Cond.sameMethod "java/lang/Throwable" "java/lang/Throwable" "fillInStackTrace" "(I)Ljava/lang/Throwable;", Jvm.Cond.fieldLink "java/lang/String" (9 : Nat) "java/lang/String" "value" "[B", Jvm.Cond.fieldLink "java/lang/String" (15 : Nat) "java/lang/String" "coder" "B", Jvm.Cond.fieldLink "java/lang/Enum" (7 : Nat) "java/lang/Enum" "ordinal" "I"]
set_option maxRecDepth 100000 in
theorem zcw_ok : ∀ w ∈ zcw, w ∈ lw_tbl :=
  z_fc (z_n0 24 (by decide +kernel)) <|
  z_fc (z_n1 zlt_1_0.2.2.2.2.1) <|
  z_fc (z_n1 zlt_1_0.2.2.2.2.2.2.2.1) <|
  z_fc (z_n1 zlt_1_0.2.2.2.2.2.2.2.2.1) <|
  z_fc (z_n1 zlt_1_0.2.2.2.2.2.2.2.2.2.2.1) <|
  z_fc (z_n1 zlt_1_0.2.2.2.2.2.2.2.2.2.2.2.2.1) <|
  z_fc (z_n1 zlt_1_0.2.2.2.2.2.2.2.2.2.2.2.2.2.1) <|
  z_fc (z_n1 zlt_1_0.2.2.2.2.2.2.2.2.2.2.2.2.2.2.1) <|
  z_fc (z_n1 zlt_1_0.2.2.2.2.2.2.2.2.2.2.2.2.2.2.2) <|
  z_fc (z_n1 zlt_1_1.1) <|
  z_fc (z_n1 zlt_1_1.2.2.2.1) <|
  z_fc (z_n1 zlt_1_1.2.2.2.2.1) <|
  z_fc (z_n1 zlt_1_1.2.2.2.2.2.1) <|
  z_fc (z_n1 zlt_1_1.2.2.2.2.2.2.2.2.2.2.2.1) <|
  z_fc (z_n1 zlt_1_1.2.2.2.2.2.2.2.2.2.2.2.2.1) <|
  z_fc (z_n1 zlt_1_1.2.2.2.2.2.2.2.2.2.2.2.2.2.1) <|
  z_fc (z_n1 zlt_1_2.2.2.2.1) <|
  z_fc (z_n1 zlt_1_2.2.2.2.2.2.2.2.2.2.1) <|
  z_fc (z_n1 zlt_1_2.2.2.2.2.2.2.2.2.2.2.1) <|
  z_fc (z_n1 zlt_1_2.2.2.2.2.2.2.2.2.2.2.2.1) <|
  z_fc (z_n1 zlt_1_2.2.2.2.2.2.2.2.2.2.2.2.2.1) <|
  z_fc (z_n1 zlt_1_3.2.2.2.2.2.2.1) <|
  z_fc (z_n1 zlt_1_4.2.2.2.2.2.2.2.2.2.2.1) <|
  z_fc (z_n1 zlt_1_5.1) <|
  z_fc (z_n1 zlt_1_5.2.2.2.2.2.2.2.2.2.2.2.1) <|
  z_fc (z_n1 zlt_1_6.2.1) <|
  z_fc (z_n1 zlt_1_8.2.2.2.2.2.2.2.2.2.2.2.2.2.2.1) <|
  z_fc (z_n1 zlt_1_9.2.2.2.2.2.2.2.2.2.2.2.2.2.2.2) <|
  z_fc (z_n1 zlt_1_10.1) <|
  z_fc (z_n1 zlt_1_10.2.1) <|
  z_fc (z_n1 zlt_1_10.2.2.1) <|
  z_fc (z_n1 zlt_1_10.2.2.2.1) <|
  z_fc (z_n1 zlt_1_10.2.2.2.2.1) <|
  z_fc (z_n1 zlt_1_10.2.2.2.2.2.1) <|
  z_fc (z_n1 zlt_1_10.2.2.2.2.2.2.1) <|
  z_fc (z_n1 zlt_1_10.2.2.2.2.2.2.2.1) <|
  z_fc (z_n1 zlt_1_10.2.2.2.2.2.2.2.2.1) <|
  z_fc (z_n1 zlt_1_10.2.2.2.2.2.2.2.2.2.1) <|
  z_fc (z_n1 zlt_1_10.2.2.2.2.2.2.2.2.2.2.1) <|
  z_fc (z_n1 zlt_1_10.2.2.2.2.2.2.2.2.2.2.2.1) <|
  z_fc (z_n1 zlt_1_10.2.2.2.2.2.2.2.2.2.2.2.2.1) <|
  z_fc (z_n1 zlt_1_10.2.2.2.2.2.2.2.2.2.2.2.2.2.1) <|
  z_fc (z_n1 zlt_1_10.2.2.2.2.2.2.2.2.2.2.2.2.2.2.1) <|
  z_fc (z_n1 zlt_1_10.2.2.2.2.2.2.2.2.2.2.2.2.2.2.2) <|
  z_fc (z_n1 zlt_1_11.1) <|
  z_fc (z_n1 zlt_1_11.2.1) <|
  z_fc (z_n1 zlt_1_11.2.2.1) <|
  z_fc (z_n1 zlt_1_11.2.2.2.1) <|
  z_fc (z_n1 zlt_1_11.2.2.2.2.1) <|
  z_fc (z_n1 zlt_1_11.2.2.2.2.2.1) <|
  z_fc (z_n1 zlt_1_11.2.2.2.2.2.2.1) <|
  z_fc (z_n1 zlt_1_11.2.2.2.2.2.2.2.1) <|
  z_fc (z_n1 zlt_1_11.2.2.2.2.2.2.2.2.2.1) <|
  z_fc (z_n1 zlt_1_11.2.2.2.2.2.2.2.2.2.2.2.2.1) <|
  z_fc (z_n1 zlt_1_11.2.2.2.2.2.2.2.2.2.2.2.2.2.1) <|
  z_fc (z_n1 zlt_1_11.2.2.2.2.2.2.2.2.2.2.2.2.2.2.1) <|
  z_fc (z_n1 zlt_1_11.2.2.2.2.2.2.2.2.2.2.2.2.2.2.2) <|
  z_fc (z_n1 zlt_1_12.1) <|
  z_fc (z_n1 zlt_1_12.2.1) <|
  z_fc (z_n1 zlt_1_12.2.2.1) <|
  z_fc (z_n1 zlt_1_12.2.2.2.1) <|
  z_fc (z_n1 zlt_1_12.2.2.2.2.1) <|
  z_fc (z_n1 zlt_1_12.2.2.2.2.2.1) <|
  z_fc (z_n1 zlt_1_12.2.2.2.2.2.2.1) <|
  z_fc (z_n1 zlt_1_12.2.2.2.2.2.2.2.1) <|
  z_fc (z_n1 zlt_1_12.2.2.2.2.2.2.2.2.1) <|
  z_fc (z_n1 zlt_1_12.2.2.2.2.2.2.2.2.2.1) <|
  z_fc (z_n1 zlt_1_12.2.2.2.2.2.2.2.2.2.2.1) <|
  z_fc (z_n1 zlt_1_12.2.2.2.2.2.2.2.2.2.2.2.1) <|
  z_fc (z_n1 zlt_1_12.2.2.2.2.2.2.2.2.2.2.2.2.1) <|
  z_fc (z_n1 zlt_1_12.2.2.2.2.2.2.2.2.2.2.2.2.2.1) <|
  z_fc (z_n1 zlt_1_12.2.2.2.2.2.2.2.2.2.2.2.2.2.2.1) <|
  z_fc (z_n2 zlt_2_0.2.2.2.2.2.1) <|
  z_fc (z_n2 zlt_2_5.1) <|
  z_fc (z_n2 zlt_2_5.2.2.1) <|
  z_fc (z_n2 zlt_2_5.2.2.2.1) <|
  z_fc (z_n2 zlt_2_5.2.2.2.2.1) <|
  z_fc (z_n3 zlt_3_12.2.2.2.2.2.2.2.2.2.2.1) <|
  z_fc (z_n3 zlt_3_12.2.2.2.2.2.2.2.2.2.2.2.2.2.2.2) <|
  z_fc (z_n3 zlt_3_13.1) <|
  z_fc (z_n3 zlt_3_13.2.2.2.2.2.2.2.2.1) <|
  z_fc (z_n3 zlt_3_13.2.2.2.2.2.2.2.2.2.1) <|
  z_fc (z_n3 zlt_3_13.2.2.2.2.2.2.2.2.2.2.1) <|
  z_fc (z_n3 zlt_3_13.2.2.2.2.2.2.2.2.2.2.2.1) <|
  z_fc (z_n3 zlt_3_13.2.2.2.2.2.2.2.2.2.2.2.2.1) <|
  z_fc (z_n3 zlt_3_13.2.2.2.2.2.2.2.2.2.2.2.2.2.1) <|
  z_fc (z_n3 zlt_3_13.2.2.2.2.2.2.2.2.2.2.2.2.2.2.1) <|
  z_fc (z_n3 zlt_3_13.2.2.2.2.2.2.2.2.2.2.2.2.2.2.2) <|
  z_fc (z_n3 zlt_3_14.1) <|
  z_fc (z_n3 zlt_3_14.2.1) <|
  z_fc (z_n3 zlt_3_14.2.2.1) <|
  z_fc (z_n3 zlt_3_14.2.2.2.1) <|
  z_fc (z_n3 zlt_3_14.2.2.2.2.1) <|
  z_fc (z_n3 zlt_3_14.2.2.2.2.2.1) <|
  z_fc (z_n3 zlt_3_14.2.2.2.2.2.2.1) <|
  z_fc (z_n3 zlt_3_14.2.2.2.2.2.2.2.1) <|
  z_fc (z_n3 zlt_3_14.2.2.2.2.2.2.2.2.1) <|
  z_fc (z_n3 zlt_3_14.2.2.2.2.2.2.2.2.2.1) <|
  z_fc (z_n3 zlt_3_14.2.2.2.2.2.2.2.2.2.2.1) <|
  z_fc (z_n3 zlt_3_14.2.2.2.2.2.2.2.2.2.2.2.1) <|
  z_fc (z_n3 zlt_3_14.2.2.2.2.2.2.2.2.2.2.2.2.1) <|
  z_fc (z_n3 zlt_3_14.2.2.2.2.2.2.2.2.2.2.2.2.2.1) <|
  z_fc (z_n3 zlt_3_14.2.2.2.2.2.2.2.2.2.2.2.2.2.2.1) <|
  z_fc (z_n3 zlt_3_14.2.2.2.2.2.2.2.2.2.2.2.2.2.2.2) <|
  z_fc (z_n4 zlt_4_0.1) <|
  z_fc (z_n4 zlt_4_0.2.1) <|
  z_fc (z_n4 zlt_4_0.2.2.1) <|
  z_fc (z_n4 zlt_4_0.2.2.2.1) <|
  z_fc (z_n4 zlt_4_0.2.2.2.2.1) <|
  z_fc (z_n4 zlt_4_0.2.2.2.2.2.1) <|
  z_fc (z_n4 zlt_4_0.2.2.2.2.2.2.1) <|
  z_fc (z_n4 zlt_4_0.2.2.2.2.2.2.2.1) <|
  z_fc (z_n4 zlt_4_0.2.2.2.2.2.2.2.2.1) <|
  z_fc (z_n4 zlt_4_0.2.2.2.2.2.2.2.2.2.2.1) <|
  z_fc (z_n4 zlt_4_0.2.2.2.2.2.2.2.2.2.2.2.1) <|
  z_fc (z_n4 zlt_4_0.2.2.2.2.2.2.2.2.2.2.2.2.1) <|
  z_fc (z_n4 zlt_4_0.2.2.2.2.2.2.2.2.2.2.2.2.2.1) <|
  z_fc (z_n4 zlt_4_0.2.2.2.2.2.2.2.2.2.2.2.2.2.2.1) <|
  z_fc (z_n4 zlt_4_0.2.2.2.2.2.2.2.2.2.2.2.2.2.2.2) <|
  z_fc (z_n4 zlt_4_1.1) <|
  z_fc (z_n4 zlt_4_1.2.1) <|
  z_fc (z_n4 zlt_4_1.2.2.1) <|
  z_fc (z_n4 zlt_4_1.2.2.2.1) <|
  z_fc (z_n4 zlt_4_1.2.2.2.2.1) <|
  z_fc (z_n4 zlt_4_1.2.2.2.2.2.1) <|
  z_fc (z_n4 zlt_4_1.2.2.2.2.2.2.1) <|
  z_fc (z_n4 zlt_4_1.2.2.2.2.2.2.2.1) <|
  z_fc (z_n4 zlt_4_1.2.2.2.2.2.2.2.2.1) <|
  z_fc (z_n4 zlt_4_1.2.2.2.2.2.2.2.2.2.1) <|
  z_fc (z_n4 zlt_4_1.2.2.2.2.2.2.2.2.2.2.1) <|
  z_fc (z_n4 zlt_4_1.2.2.2.2.2.2.2.2.2.2.2.1) <|
  z_fc (z_n4 zlt_4_1.2.2.2.2.2.2.2.2.2.2.2.2.1) <|
  z_fc (z_n4 zlt_4_1.2.2.2.2.2.2.2.2.2.2.2.2.2.1) <|
  z_fc (z_n4 zlt_4_1.2.2.2.2.2.2.2.2.2.2.2.2.2.2.1) <|
  z_fc (z_n4 zlt_4_1.2.2.2.2.2.2.2.2.2.2.2.2.2.2.2) <|
  z_fc (z_n4 zlt_4_2.1) <|
  z_fc (z_n4 zlt_4_2.2.1) <|
  z_fc (z_n4 zlt_4_2.2.2.1) <|
  z_fc (z_n4 zlt_4_2.2.2.2.2.2.2.2.1) <|
  z_fc (z_n4 zlt_4_3.2.2.2.2.2.1) <|
  z_fc (z_n4 zlt_4_3.2.2.2.2.2.2.1) <|
  z_fc (z_n4 zlt_4_3.2.2.2.2.2.2.2.2.1) <|
  z_fc (z_n4 zlt_4_3.2.2.2.2.2.2.2.2.2.1) <|
  z_fc (z_n4 zlt_4_3.2.2.2.2.2.2.2.2.2.2.1) <|
  z_fc (z_n4 zlt_4_3.2.2.2.2.2.2.2.2.2.2.2.1) <|
  z_fc (z_n4 zlt_4_3.2.2.2.2.2.2.2.2.2.2.2.2.1) <|
  z_fc (z_n4 zlt_4_3.2.2.2.2.2.2.2.2.2.2.2.2.2.1) <|
  z_fc (z_n4 zlt_4_3.2.2.2.2.2.2.2.2.2.2.2.2.2.2.2) <|
  z_fc (z_n4 zlt_4_4.1) <|
  z_fc (z_n4 zlt_4_4.2.1) <|
  z_fc (z_n4 zlt_4_4.2.2.1) <|
  z_fc (z_n4 zlt_4_4.2.2.2.1) <|
  z_fc (z_n4 zlt_4_4.2.2.2.2.1) <|
  z_fc (z_n4 zlt_4_9.2.2.1) <|
  z_fc (z_n4 zlt_4_9.2.2.2.2.2.2.2.2.2.2.2.2.1) <|
  z_fc (z_n4 zlt_4_9.2.2.2.2.2.2.2.2.2.2.2.2.2.1) <|
  z_fc (z_n4 zlt_4_9.2.2.2.2.2.2.2.2.2.2.2.2.2.2.2) <|
  z_fc (z_n4 zlt_4_10.1) <|
  z_fc (z_n4 zlt_4_10.2.1) <|
  z_fc (z_n4 zlt_4_10.2.2.1) <|
  z_fc (z_n4 zlt_4_10.2.2.2.1) <|
  z_fc (z_n4 zlt_4_10.2.2.2.2.1) <|
  z_fc (z_n4 zlt_4_10.2.2.2.2.2.2.1) <|
  z_fc (z_n4 zlt_4_10.2.2.2.2.2.2.2.1) <|
  z_fc (z_n4 zlt_4_10.2.2.2.2.2.2.2.2.1) <|
  z_fc (z_n4 zlt_4_10.2.2.2.2.2.2.2.2.2.1) <|
  z_fc (z_n4 zlt_4_10.2.2.2.2.2.2.2.2.2.2.1) <|
  z_fc (z_n4 zlt_4_10.2.2.2.2.2.2.2.2.2.2.2.1) <|
  z_fc (z_n4 zlt_4_12.2.2.2.2.2.2.2.2.2.2.2.2.1) <|
  z_fc (z_n4 zlt_4_13.2.1) <|
  z_fc (z_n4 zlt_4_13.2.2.1) <|
  z_fc (z_n4 zlt_4_13.2.2.2.2.1) <|
  z_fc (z_n4 zlt_4_13.2.2.2.2.2.1) <|
  z_fc (z_n4 zlt_4_13.2.2.2.2.2.2.1) <|
  z_fc (z_n4 zlt_4_13.2.2.2.2.2.2.2.1) <|
  z_fc (z_n4 zlt_4_13.2.2.2.2.2.2.2.2.1) <|
  z_fc (z_n4 zlt_4_13.2.2.2.2.2.2.2.2.2.1) <|
  z_fc (z_n4 zlt_4_13.2.2.2.2.2.2.2.2.2.2.2.1) <|
  z_fc (z_n4 zlt_4_13.2.2.2.2.2.2.2.2.2.2.2.2.1) <|
  z_fc (z_n4 zlt_4_13.2.2.2.2.2.2.2.2.2.2.2.2.2.1) <|
  z_fc (z_n4 zlt_4_13.2.2.2.2.2.2.2.2.2.2.2.2.2.2.1) <|
  z_fc (z_n4 zlt_4_13.2.2.2.2.2.2.2.2.2.2.2.2.2.2.2) <|
  z_fc (z_n4 zlt_4_14.1) <|
  z_fc (z_n5 zlt_5_6.2.2.1) <|
  z_fc (z_n5 zlt_5_6.2.2.2.2.2.2.2.2.1) <|
  z_fc (z_n5 zlt_5_6.2.2.2.2.2.2.2.2.2.1) <|
  z_fc (z_n6 zlt_6_11.2.2.2.2.2.2.2.2.2.2.2.2.2.1) <|
  z_fc (z_n6 zlt_6_14.2.2.2.1) <|
  z_fc (z_n8 zlt_8_3.2.2.1) <|
  z_fc (z_n8 zlt_8_4.1) <|
  z_fc (z_n8 zlt_8_4.2.1) <|
  z_fc (z_n8 zlt_8_4.2.2.2.1) <|
  z_fn
def zcx : List Cond := [Jvm.Cond.initialized "LyndonBenchLaw", Jvm.Cond.initialized "LyndonBench", Jvm.Cond.initialized "LyndonBench$State", Jvm.Cond.initialized "LyndonBench$Word", Jvm.Cond.initialized "LyndonBench$History", Jvm.Cond.initialized "LyndonBench$Script", Jvm.Cond.initialized "jdk/internal/util/Preconditions", Jvm.Cond.initialized "LyndonBenchModel", Jvm.Cond.initialized "LyndonBench$Command", Jvm.Cond.initialized "LyndonBench$1", Jvm.Cond.instantiable "LyndonBench" (7 : Nat), Jvm.Cond.instantiable "LyndonBench$State" (4 : Nat), Jvm.Cond.instantiable "LyndonBench$Word" (2 : Nat), Jvm.Cond.laysFinal "LyndonBench$Word" "LyndonBench$Word" "row" "[B", Jvm.Cond.soleField "LyndonBench$Word" "row", Jvm.Cond.lays "LyndonBench$Word" "LyndonBench$Word" "size" "I", Jvm.Cond.soleField "LyndonBench$Word" "size", Jvm.Cond.lays "LyndonBench$State" "LyndonBench$State" "letterCount" "I", Jvm.Cond.soleField "LyndonBench$State" "letterCount", Jvm.Cond.laysFinal "LyndonBench$State" "LyndonBench$State" "text" "LLyndonBench$Word;", Jvm.Cond.soleField "LyndonBench$State" "text", Jvm.Cond.laysFinal "LyndonBench$State" "LyndonBench$State" "shelf" "[LLyndonBench$Word;", Jvm.Cond.soleField "LyndonBench$State" "shelf", Jvm.Cond.lays "LyndonBench$State" "LyndonBench$State" "keptWords" "I", Jvm.Cond.soleField "LyndonBench$State" "keptWords", Jvm.Cond.instantiable "LyndonBench$History" (2 : Nat), Jvm.Cond.laysFinal "LyndonBench$History" "LyndonBench$History" "states" "[LLyndonBench$State;", Jvm.Cond.soleField "LyndonBench$History" "states", Jvm.Cond.lays "LyndonBench$History" "LyndonBench$History" "count" "I", Jvm.Cond.soleField "LyndonBench$History" "count", Jvm.Cond.instantiable "LyndonBench$Script" (12 : Nat), Jvm.Cond.laysFinal "LyndonBench$Script" "LyndonBench$Script" "source" "LLyndonBench$Word;", Jvm.Cond.soleField "LyndonBench$Script" "source", Jvm.Cond.laysFinal "LyndonBench$Script" "LyndonBench$Script" "state" "LLyndonBench$State;", Jvm.Cond.soleField "LyndonBench$Script" "state", Jvm.Cond.lays "LyndonBench$Script" "LyndonBench$Script" "errorKind" "I", Jvm.Cond.soleField "LyndonBench$Script" "errorKind", Jvm.Cond.lays "LyndonBench$Script" "LyndonBench$Script" "errorOffset" "I", Jvm.Cond.soleField "LyndonBench$Script" "errorOffset", Jvm.Cond.lays "LyndonBench$Script" "LyndonBench$Script" "token" "I", Jvm.Cond.soleField "LyndonBench$Script" "token", Jvm.Cond.lays "LyndonBench$Script" "LyndonBench$Script" "tokenStart" "I", Jvm.Cond.soleField "LyndonBench$Script" "tokenStart", Jvm.Cond.lays "LyndonBench$Script" "LyndonBench$Script" "position" "I", Jvm.Cond.soleField "LyndonBench$Script" "position", Jvm.Cond.lays "LyndonBench$Script" "LyndonBench$Script" "number" "I", Jvm.Cond.soleField "LyndonBench$Script" "number", Jvm.Cond.lays "LyndonBench$Script" "LyndonBench$Script" "executed" "I", Jvm.Cond.soleField "LyndonBench$Script" "executed", Jvm.Cond.lays "LyndonBench$Script" "LyndonBench$Script" "nesting" "I", Jvm.Cond.soleField "LyndonBench$Script" "nesting", Jvm.Cond.laysFinal "LyndonBench$Script" "LyndonBench$Script" "bodies" "[I", Jvm.Cond.soleField "LyndonBench$Script" "bodies", Jvm.Cond.laysFinal "LyndonBench$Script" "LyndonBench$Script" "rounds" "[I", Jvm.Cond.soleField "LyndonBench$Script" "rounds", Jvm.Cond.laysStatic "jdk/internal/util/Preconditions" "SIOOBE_FORMATTER" "Ljava/util/function/BiFunction;", Jvm.Cond.laysFinal "LyndonBench" "LyndonBench" "now" "LLyndonBench$State;", Jvm.Cond.soleField "LyndonBench" "now", Jvm.Cond.laysFinal "LyndonBench" "LyndonBench" "history" "LLyndonBench$History;", Jvm.Cond.soleField "LyndonBench" "history", Jvm.Cond.laysFinal "LyndonBench" "LyndonBench" "snapshot" "LLyndonBench$State;", Jvm.Cond.soleField "LyndonBench" "snapshot", Jvm.Cond.lays "LyndonBench" "LyndonBench" "snapshotSaved" "Z", Jvm.Cond.soleField "LyndonBench" "snapshotSaved", Jvm.Cond.laysFinal "LyndonBench" "LyndonBench" "script" "LLyndonBench$Script;", Jvm.Cond.soleField "LyndonBench" "script", Jvm.Cond.laysFinal "LyndonBench" "LyndonBench" "report" "LLyndonBench$Word;", Jvm.Cond.soleField "LyndonBench" "report", Jvm.Cond.laysFinal "LyndonBench" "LyndonBench" "trial" "LLyndonBench$Word;", Jvm.Cond.soleField "LyndonBench" "trial", Jvm.Cond.laysStatic "LyndonBench$Command" "ALL" "[LLyndonBench$Command;", Jvm.Cond.laysStatic "LyndonBench$Command" "REPEAT" "LLyndonBench$Command;", Jvm.Cond.laysStatic "LyndonBench$1" "$SwitchMap$LyndonBench$Command" "[I", Jvm.Cond.laysStatic "LyndonBench" "MOEBIUS" "[I", Jvm.Cond.laysStatic "LyndonBench" "TOTIENT" "[I", Jvm.Cond.instantiable "LyndonBenchModel" (24 : Nat), Jvm.Cond.laysFinal "LyndonBenchModel" "LyndonBenchModel" "w" "[I", Jvm.Cond.soleField "LyndonBenchModel" "w", Jvm.Cond.laysFinal "LyndonBenchModel" "LyndonBenchModel" "before" "[I", Jvm.Cond.soleField "LyndonBenchModel" "before", Jvm.Cond.laysFinal "LyndonBenchModel" "LyndonBenchModel" "past" "[I", Jvm.Cond.soleField "LyndonBenchModel" "past", Jvm.Cond.laysFinal "LyndonBenchModel" "LyndonBenchModel" "kept" "[I", Jvm.Cond.soleField "LyndonBenchModel" "kept", Jvm.Cond.lays "LyndonBenchModel" "LyndonBenchModel" "pastMany" "I", Jvm.Cond.soleField "LyndonBenchModel" "pastMany", Jvm.Cond.lays "LyndonBenchModel" "LyndonBenchModel" "isKept" "Z", Jvm.Cond.soleField "LyndonBenchModel" "isKept", Jvm.Cond.laysFinal "LyndonBenchModel" "LyndonBenchModel" "buffer" "[I", Jvm.Cond.soleField "LyndonBenchModel" "buffer", Jvm.Cond.laysFinal "LyndonBenchModel" "LyndonBenchModel" "text" "[I", Jvm.Cond.soleField "LyndonBenchModel" "text", Jvm.Cond.laysFinal "LyndonBenchModel" "LyndonBenchModel" "row" "[I", Jvm.Cond.soleField "LyndonBenchModel" "row", Jvm.Cond.laysFinal "LyndonBenchModel" "LyndonBenchModel" "starts" "[I", Jvm.Cond.soleField "LyndonBenchModel" "starts", Jvm.Cond.lays "LyndonBenchModel" "LyndonBenchModel" "typed" "I", Jvm.Cond.soleField "LyndonBenchModel" "typed", Jvm.Cond.lays "LyndonBenchModel" "LyndonBenchModel" "textLength" "I", Jvm.Cond.soleField "LyndonBenchModel" "textLength", Jvm.Cond.lays "LyndonBenchModel" "LyndonBenchModel" "errorKind" "I", Jvm.Cond.soleField "LyndonBenchModel" "errorKind", Jvm.Cond.lays "LyndonBenchModel" "LyndonBenchModel" "errorOffset" "I", Jvm.Cond.soleField "LyndonBenchModel" "errorOffset", Jvm.Cond.lays "LyndonBenchModel" "LyndonBenchModel" "rowLength" "I", Jvm.Cond.soleField "LyndonBenchModel" "rowLength", Jvm.Cond.laysFinal "LyndonBenchModel" "LyndonBenchModel" "report" "[C", Jvm.Cond.soleField "LyndonBenchModel" "report", Jvm.Cond.lays "LyndonBenchModel" "LyndonBenchModel" "reportLength" "I", Jvm.Cond.soleField "LyndonBenchModel" "reportLength", Jvm.Cond.lays "LyndonBenchModel" "LyndonBenchModel" "thrown" "I", Jvm.Cond.soleField "LyndonBenchModel" "thrown", Jvm.Cond.lays "LyndonBenchModel" "LyndonBenchModel" "kind" "I", Jvm.Cond.soleField "LyndonBenchModel" "kind", Jvm.Cond.lays "LyndonBenchModel" "LyndonBenchModel" "offset" "I", Jvm.Cond.soleField "LyndonBenchModel" "offset", Jvm.Cond.lays "LyndonBenchModel" "LyndonBenchModel" "tokenEnd" "I", Jvm.Cond.soleField "LyndonBenchModel" "tokenEnd", Jvm.Cond.lays "LyndonBenchModel" "LyndonBenchModel" "value" "I", Jvm.Cond.soleField "LyndonBenchModel" "value", Jvm.Cond.lays "LyndonBenchModel" "LyndonBenchModel" "executed" "I", Jvm.Cond.soleField "LyndonBenchModel" "executed", Jvm.Cond.laysFinal "LyndonBenchModel" "LyndonBenchModel" "numbers" "[I", Jvm.Cond.soleField "LyndonBenchModel" "numbers", Jvm.Cond.laysStatic "LyndonBench$Command" "TEXT" "LLyndonBench$Command;", Jvm.Cond.laysStatic "LyndonBench$Command" "APPEND" "LLyndonBench$Command;", Jvm.Cond.laysStatic "LyndonBench$Command" "DROP" "LLyndonBench$Command;", Jvm.Cond.laysStatic "LyndonBench$Command" "PART" "LLyndonBench$Command;", Jvm.Cond.laysStatic "LyndonBench$Command" "ROTATE" "LLyndonBench$Command;", Jvm.Cond.laysStatic "LyndonBench$Command" "REVERSE" "LLyndonBench$Command;", Jvm.Cond.laysStatic "LyndonBench$Command" "LEAST" "LLyndonBench$Command;", Jvm.Cond.laysStatic "LyndonBench$Command" "NEXT" "LLyndonBench$Command;", Jvm.Cond.laysStatic "LyndonBench$Command" "KEEP" "LLyndonBench$Command;", Jvm.Cond.laysStatic "LyndonBench$Command" "REMOVE" "LLyndonBench$Command;", Jvm.Cond.laysStatic "LyndonBench$Command" "JOIN" "LLyndonBench$Command;"]
set_option maxRecDepth 100000 in
theorem zcx_ok : ∀ w ∈ zcx, w ∈ lw_tbl :=
  z_fc (z_n1 zlt_1_0.1) <|
  z_fc (z_n1 zlt_1_0.2.1) <|
  z_fc (z_n1 zlt_1_0.2.2.1) <|
  z_fc (z_n1 zlt_1_0.2.2.2.1) <|
  z_fc (z_n1 zlt_1_0.2.2.2.2.2.1) <|
  z_fc (z_n1 zlt_1_0.2.2.2.2.2.2.1) <|
  z_fc (z_n1 zlt_1_0.2.2.2.2.2.2.2.2.2.1) <|
  z_fc (z_n1 zlt_1_0.2.2.2.2.2.2.2.2.2.2.2.1) <|
  z_fc (z_n1 zlt_1_1.2.1) <|
  z_fc (z_n1 zlt_1_1.2.2.1) <|
  z_fc (z_n1 zlt_1_1.2.2.2.2.2.2.2.1) <|
  z_fc (z_n1 zlt_1_1.2.2.2.2.2.2.2.2.2.2.2.2.2.2.2) <|
  z_fc (z_n1 zlt_1_2.2.2.2.2.2.1) <|
  z_fc (z_n1 zlt_1_3.2.2.1) <|
  z_fc (z_n1 zlt_1_3.2.2.2.1) <|
  z_fc (z_n1 zlt_1_3.2.2.2.2.1) <|
  z_fc (z_n1 zlt_1_3.2.2.2.2.2.1) <|
  z_fc (z_n1 zlt_1_4.2.2.1) <|
  z_fc (z_n1 zlt_1_4.2.2.2.1) <|
  z_fc (z_n1 zlt_1_4.2.2.2.2.1) <|
  z_fc (z_n1 zlt_1_4.2.2.2.2.2.1) <|
  z_fc (z_n1 zlt_1_4.2.2.2.2.2.2.1) <|
  z_fc (z_n1 zlt_1_4.2.2.2.2.2.2.2.1) <|
  z_fc (z_n1 zlt_1_4.2.2.2.2.2.2.2.2.1) <|
  z_fc (z_n1 zlt_1_4.2.2.2.2.2.2.2.2.2.1) <|
  z_fc (z_n1 zlt_1_4.2.2.2.2.2.2.2.2.2.2.2.2.1) <|
  z_fc (z_n1 zlt_1_5.2.2.2.2.2.2.2.1) <|
  z_fc (z_n1 zlt_1_5.2.2.2.2.2.2.2.2.1) <|
  z_fc (z_n1 zlt_1_5.2.2.2.2.2.2.2.2.2.1) <|
  z_fc (z_n1 zlt_1_5.2.2.2.2.2.2.2.2.2.2.1) <|
  z_fc (z_n1 zlt_1_5.2.2.2.2.2.2.2.2.2.2.2.2.2.1) <|
  z_fc (z_n1 zlt_1_7.2.2.2.2.2.2.1) <|
  z_fc (z_n1 zlt_1_7.2.2.2.2.2.2.2.1) <|
  z_fc (z_n1 zlt_1_7.2.2.2.2.2.2.2.2.1) <|
  z_fc (z_n1 zlt_1_7.2.2.2.2.2.2.2.2.2.1) <|
  z_fc (z_n1 zlt_1_7.2.2.2.2.2.2.2.2.2.2.1) <|
  z_fc (z_n1 zlt_1_7.2.2.2.2.2.2.2.2.2.2.2.1) <|
  z_fc (z_n1 zlt_1_7.2.2.2.2.2.2.2.2.2.2.2.2.1) <|
  z_fc (z_n1 zlt_1_7.2.2.2.2.2.2.2.2.2.2.2.2.2.1) <|
  z_fc (z_n1 zlt_1_7.2.2.2.2.2.2.2.2.2.2.2.2.2.2.1) <|
  z_fc (z_n1 zlt_1_7.2.2.2.2.2.2.2.2.2.2.2.2.2.2.2) <|
  z_fc (z_n1 zlt_1_8.1) <|
  z_fc (z_n1 zlt_1_8.2.1) <|
  z_fc (z_n1 zlt_1_8.2.2.1) <|
  z_fc (z_n1 zlt_1_8.2.2.2.1) <|
  z_fc (z_n1 zlt_1_8.2.2.2.2.1) <|
  z_fc (z_n1 zlt_1_8.2.2.2.2.2.1) <|
  z_fc (z_n1 zlt_1_8.2.2.2.2.2.2.1) <|
  z_fc (z_n1 zlt_1_8.2.2.2.2.2.2.2.1) <|
  z_fc (z_n1 zlt_1_8.2.2.2.2.2.2.2.2.1) <|
  z_fc (z_n1 zlt_1_8.2.2.2.2.2.2.2.2.2.1) <|
  z_fc (z_n1 zlt_1_8.2.2.2.2.2.2.2.2.2.2.1) <|
  z_fc (z_n1 zlt_1_8.2.2.2.2.2.2.2.2.2.2.2.1) <|
  z_fc (z_n1 zlt_1_8.2.2.2.2.2.2.2.2.2.2.2.2.1) <|
  z_fc (z_n1 zlt_1_8.2.2.2.2.2.2.2.2.2.2.2.2.2.1) <|
  z_fc (z_n1 zlt_1_11.2.2.2.2.2.2.2.2.1) <|
  z_fc (z_n1 zlt_1_14.2.2.2.2.2.2.2.1) <|
  z_fc (z_n1 zlt_1_14.2.2.2.2.2.2.2.2.1) <|
  z_fc (z_n1 zlt_1_14.2.2.2.2.2.2.2.2.2.1) <|
  z_fc (z_n1 zlt_1_14.2.2.2.2.2.2.2.2.2.2.1) <|
  z_fc (z_n1 zlt_1_14.2.2.2.2.2.2.2.2.2.2.2.1) <|
  z_fc (z_n1 zlt_1_14.2.2.2.2.2.2.2.2.2.2.2.2.1) <|
  z_fc (z_n1 zlt_1_14.2.2.2.2.2.2.2.2.2.2.2.2.2.1) <|
  z_fc (z_n1 zlt_1_14.2.2.2.2.2.2.2.2.2.2.2.2.2.2.1) <|
  z_fc (z_n1 zlt_1_14.2.2.2.2.2.2.2.2.2.2.2.2.2.2.2) <|
  z_fc (z_n2 zlt_2_0.1) <|
  z_fc (z_n2 zlt_2_0.2.1) <|
  z_fc (z_n2 zlt_2_0.2.2.1) <|
  z_fc (z_n2 zlt_2_0.2.2.2.1) <|
  z_fc (z_n2 zlt_2_0.2.2.2.2.1) <|
  z_fc (z_n2 zlt_2_4.2.2.2.2.2.1) <|
  z_fc (z_n2 zlt_2_4.2.2.2.2.2.2.2.2.1) <|
  z_fc (z_n2 zlt_2_4.2.2.2.2.2.2.2.2.2.2.2.2.2.2.1) <|
  z_fc (z_n3 zlt_3_10.2.2.2.2.1) <|
  z_fc (z_n3 zlt_3_10.2.2.2.2.2.2.2.2.2.2.2.2.1) <|
  z_fc (z_n5 zlt_5_5.2.2.2.2.2.2.2.2.2.2.2.2.2.2.1) <|
  z_fc (z_n6 zlt_6_8.2.2.2.2.2.2.2.2.2.2.2.2.2.1) <|
  z_fc (z_n6 zlt_6_8.2.2.2.2.2.2.2.2.2.2.2.2.2.2.1) <|
  z_fc (z_n6 zlt_6_8.2.2.2.2.2.2.2.2.2.2.2.2.2.2.2) <|
  z_fc (z_n6 zlt_6_9.1) <|
  z_fc (z_n6 zlt_6_9.2.1) <|
  z_fc (z_n6 zlt_6_9.2.2.1) <|
  z_fc (z_n6 zlt_6_9.2.2.2.1) <|
  z_fc (z_n6 zlt_6_9.2.2.2.2.1) <|
  z_fc (z_n6 zlt_6_9.2.2.2.2.2.1) <|
  z_fc (z_n6 zlt_6_9.2.2.2.2.2.2.1) <|
  z_fc (z_n6 zlt_6_9.2.2.2.2.2.2.2.1) <|
  z_fc (z_n6 zlt_6_9.2.2.2.2.2.2.2.2.1) <|
  z_fc (z_n6 zlt_6_9.2.2.2.2.2.2.2.2.2.1) <|
  z_fc (z_n6 zlt_6_9.2.2.2.2.2.2.2.2.2.2.1) <|
  z_fc (z_n6 zlt_6_9.2.2.2.2.2.2.2.2.2.2.2.1) <|
  z_fc (z_n6 zlt_6_9.2.2.2.2.2.2.2.2.2.2.2.2.1) <|
  z_fc (z_n6 zlt_6_9.2.2.2.2.2.2.2.2.2.2.2.2.2.1) <|
  z_fc (z_n6 zlt_6_9.2.2.2.2.2.2.2.2.2.2.2.2.2.2.1) <|
  z_fc (z_n6 zlt_6_9.2.2.2.2.2.2.2.2.2.2.2.2.2.2.2) <|
  z_fc (z_n6 zlt_6_10.1) <|
  z_fc (z_n6 zlt_6_10.2.1) <|
  z_fc (z_n6 zlt_6_10.2.2.1) <|
  z_fc (z_n6 zlt_6_10.2.2.2.1) <|
  z_fc (z_n6 zlt_6_10.2.2.2.2.1) <|
  z_fc (z_n6 zlt_6_10.2.2.2.2.2.1) <|
  z_fc (z_n6 zlt_6_10.2.2.2.2.2.2.1) <|
  z_fc (z_n6 zlt_6_10.2.2.2.2.2.2.2.1) <|
  z_fc (z_n6 zlt_6_10.2.2.2.2.2.2.2.2.1) <|
  z_fc (z_n6 zlt_6_10.2.2.2.2.2.2.2.2.2.1) <|
  z_fc (z_n6 zlt_6_10.2.2.2.2.2.2.2.2.2.2.1) <|
  z_fc (z_n6 zlt_6_10.2.2.2.2.2.2.2.2.2.2.2.1) <|
  z_fc (z_n6 zlt_6_10.2.2.2.2.2.2.2.2.2.2.2.2.1) <|
  z_fc (z_n6 zlt_6_10.2.2.2.2.2.2.2.2.2.2.2.2.2.1) <|
  z_fc (z_n6 zlt_6_10.2.2.2.2.2.2.2.2.2.2.2.2.2.2.1) <|
  z_fc (z_n6 zlt_6_10.2.2.2.2.2.2.2.2.2.2.2.2.2.2.2) <|
  z_fc (z_n6 zlt_6_11.1) <|
  z_fc (z_n6 zlt_6_11.2.1) <|
  z_fc (z_n6 zlt_6_11.2.2.1) <|
  z_fc (z_n6 zlt_6_11.2.2.2.1) <|
  z_fc (z_n6 zlt_6_11.2.2.2.2.1) <|
  z_fc (z_n6 zlt_6_11.2.2.2.2.2.1) <|
  z_fc (z_n6 zlt_6_11.2.2.2.2.2.2.1) <|
  z_fc (z_n6 zlt_6_11.2.2.2.2.2.2.2.1) <|
  z_fc (z_n6 zlt_6_11.2.2.2.2.2.2.2.2.1) <|
  z_fc (z_n6 zlt_6_11.2.2.2.2.2.2.2.2.2.1) <|
  z_fc (z_n6 zlt_6_11.2.2.2.2.2.2.2.2.2.2.1) <|
  z_fc (z_n6 zlt_6_11.2.2.2.2.2.2.2.2.2.2.2.1) <|
  z_fc (z_n6 zlt_6_11.2.2.2.2.2.2.2.2.2.2.2.2.1) <|
  z_fc (z_n8 zlt_8_4.2.2.2.2.1) <|
  z_fc (z_n8 zlt_8_4.2.2.2.2.2.1) <|
  z_fc (z_n8 zlt_8_4.2.2.2.2.2.2.1) <|
  z_fc (z_n8 zlt_8_4.2.2.2.2.2.2.2.1) <|
  z_fc (z_n8 zlt_8_4.2.2.2.2.2.2.2.2.1) <|
  z_fc (z_n8 zlt_8_4.2.2.2.2.2.2.2.2.2.1) <|
  z_fc (z_n8 zlt_8_4.2.2.2.2.2.2.2.2.2.2.1) <|
  z_fc (z_n8 zlt_8_4.2.2.2.2.2.2.2.2.2.2.2.1) <|
  z_fc (z_n8 zlt_8_4.2.2.2.2.2.2.2.2.2.2.2.2.1) <|
  z_fc (z_n8 zlt_8_4.2.2.2.2.2.2.2.2.2.2.2.2.2.1) <|
  z_fc (z_n8 zlt_8_4.2.2.2.2.2.2.2.2.2.2.2.2.2.2.1) <|
  z_fn
theorem z_atg {ws : List Cond} (h : (ws.filter goodWord).all (fun w => zcw.contains w) = true) : ∀ w ∈ ws.filter goodWord, w ∈ za_Ts := fun w hw => List.mem_filter.mpr ⟨zcw_ok w (List.contains_iff_mem.mp (List.all_eq_true.mp h w hw)), (List.mem_filter.mp hw).2⟩
theorem z_all3 {ws : List Cond} (h : ws.all (fun w => goodWord w && zcx.contains w) = true) : ∀ w ∈ ws, w ∈ za_Ts := fun w hw => by
  have h1 := z_and (List.all_eq_true.mp h w hw)
  exact List.mem_filter.mpr ⟨zcx_ok w (List.contains_iff_mem.mp h1.2), h1.1⟩
theorem zt_0a : ∀ w ∈ (zq_sel none "LyndonBench" 81 "java/lang/IllegalArgumentException" ["java/lang/RuntimeException", "java/lang/Exception"]).filter goodWord, w ∈ za_Ts := z_atg (by decide +kernel)
theorem zt_0b : ∀ w ∈ (zq_sel none "LyndonBench" 81 "java/lang/IllegalArgumentException" ["java/lang/RuntimeException", "java/lang/Exception"]).filter (fun w => !goodWord w), w ∈ za_nw ∧ w.onTables = true := by decide +kernel
theorem zt_2a : ∀ w ∈ (zq_sel none "LyndonBench" 112 "java/lang/IllegalStateException" ["java/lang/RuntimeException", "java/lang/Exception"]).filter goodWord, w ∈ za_Ts := z_atg (by decide +kernel)
theorem zt_2b : ∀ w ∈ (zq_sel none "LyndonBench" 112 "java/lang/IllegalStateException" ["java/lang/RuntimeException", "java/lang/Exception"]).filter (fun w => !goodWord w), w ∈ za_nw ∧ w.onTables = true := by decide +kernel
theorem zt_4a : ∀ w ∈ (zq_sel none "LyndonBench" 196 "java/lang/IndexOutOfBoundsException" ["java/lang/RuntimeException", "java/lang/Exception"]).filter goodWord, w ∈ za_Ts := z_atg (by decide +kernel)
theorem zt_4b : ∀ w ∈ (zq_sel none "LyndonBench" 196 "java/lang/IndexOutOfBoundsException" ["java/lang/RuntimeException", "java/lang/Exception"]).filter (fun w => !goodWord w), w ∈ za_nw ∧ w.onTables = true := by decide +kernel
theorem zt_6a : ∀ w ∈ (zq_sel (some ("java/lang/RuntimeException", 13, prog_26_method_4_code)) "LyndonBench" 219 "java/util/NoSuchElementException" ["java/lang/Exception"]).filter goodWord, w ∈ za_Ts := z_atg (by decide +kernel)
theorem zt_6b : ∀ w ∈ (zq_sel (some ("java/lang/RuntimeException", 13, prog_26_method_4_code)) "LyndonBench" 219 "java/util/NoSuchElementException" ["java/lang/Exception"]).filter (fun w => !goodWord w), w ∈ za_nw ∧ w.onTables = true := by decide +kernel
theorem zt_0c_77 : ∀ w ∈ Cond.classLink "LyndonBench" 77 "java/lang/IllegalArgumentException" :: Cond.initialized "java/lang/IllegalArgumentException" :: zq_sel none "LyndonBench" 81 "java/lang/IllegalArgumentException" ["java/lang/RuntimeException", "java/lang/Exception"], vx_ot w = true := by decide +kernel
theorem zt_2c_108 : ∀ w ∈ Cond.classLink "LyndonBench" 108 "java/lang/IllegalStateException" :: Cond.initialized "java/lang/IllegalStateException" :: zq_sel none "LyndonBench" 112 "java/lang/IllegalStateException" ["java/lang/RuntimeException", "java/lang/Exception"], vx_ot w = true := by decide +kernel
theorem zt_4c_192 : ∀ w ∈ Cond.classLink "LyndonBench" 192 "java/lang/IndexOutOfBoundsException" :: Cond.initialized "java/lang/IndexOutOfBoundsException" :: zq_sel none "LyndonBench" 196 "java/lang/IndexOutOfBoundsException" ["java/lang/RuntimeException", "java/lang/Exception"], vx_ot w = true := by decide +kernel
theorem zt_6c_215 : ∀ w ∈ Cond.classLink "LyndonBench" 215 "java/util/NoSuchElementException" :: Cond.initialized "java/util/NoSuchElementException" :: zq_sel (some ("java/lang/RuntimeException", 13, prog_26_method_4_code)) "LyndonBench" 219 "java/util/NoSuchElementException" ["java/lang/Exception"], vx_ot w = true := by decide +kernel
end
