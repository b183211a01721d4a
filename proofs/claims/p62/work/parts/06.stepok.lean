/-! THE PURE MACHINE, V: one instruction of the heap is what the machine does. -/
theorem z_ald_inv {T : zT} {t0 pc pc2 dc ds : Nat} {st st2 : List Value} {h h2 : zH} (e : z_ald T t0 pc st h = some (pc2, st2, h2, dc, ds)) : ∃ (i : Int32) (q : Nat) (r vs : List Value) (v : Value), st = .int i :: .ref q :: r ∧ z_hg T.1 h q = some (t0, vs) ∧ ¬ i < 0 ∧ vs[i.toNatClampNeg]? = some v ∧ (pc + 1, v :: r, h, 0, 0) = (pc2, st2, h2, dc, ds) := by
  unfold z_ald at e
  split at e
  · rename_i i q r
    split at e
    · rename_i t vs e1
      split at e
      · rename_i e2
        split at e
        · rename_i v e3
          obtain ⟨e4, e5⟩ := e2
          subst e4
          exact ⟨i, q, r, vs, v, rfl, e1, e5, e3, Option.some.inj e⟩
        · cases e
      · cases e
    · cases e
  · cases e
theorem z_mk_inv {pc a N pc2 dc ds : Nat} {fs r st2 : List Value} {h h2 : zH} (e : z_mk pc a N fs r h = some (pc2, st2, h2, dc, ds)) : h.length < 1000000 ∧ (pc, Value.ref h.length :: r, h ++ [(a, fs)], 1, N) = (pc2, st2, h2, dc, ds) := by
  unfold z_mk at e
  split at e
  · rename_i e1
    exact ⟨e1, Option.some.inj e⟩
  · cases e
theorem z_cs_map (ad : Nat → Option Nat) (st : List Value) : ((st.map (z_cv ad)).map fun v => v.category).sum = z_cs st := by
  unfold z_cs
  rw [List.map_map]
  congr 1
  exact List.map_congr_left fun v _ => z_cv_cat ad v
section ZQ
variable {p : Program} {l : Launch} {e : Env} {R : Room} {s : State} {m : MethodId} {args : Array Value} {below : List Frame} {meth : Method} {c : Code} {H : Heap} {locs : List Loc} {cells slots : Nat} {Q : State → Prop}
variable {cc : ByteArray} {pc : Nat} {ls : Array Slot}
variable {D : va_G} {cl scl : List vw_C} {tys : List (ClassId × FieldType)} {tf : List FieldType} {nw : List Cond} {A : Nat → Prop} {ad ad0 : Nat → Option Nat} {h : zH}
theorem z_hgv {S : List zC} {sf : List zF} {ss : List zS} (hst : z_stat scl tf S sf ss nw A ad0 s) (hv : z_hv h) {q t : Nat} {vs : List Value} (e1 : z_hg S h q = some (t, vs)) : ∀ v ∈ vs, z_vk h.length v := by
  rcases z_hg_cases e1 with ⟨-, g⟩ | ⟨-, g⟩
  · exact z_hv_at hv g
  · exact fun v hv' => ((hst.1 _ _ g).1 v hv').le (Nat.zero_le _)
theorem z_setv {q t : Nat} {vs : List Value} {b : Nat} {v : Value} (hv : z_hv h) (e1 : h[q]? = some (t, vs)) (hx : z_vk h.length v) : z_hv (h.set q (t, vs.set b v)) :=
  z_hv_set hv fun u hu => by
    rcases List.mem_or_eq_of_mem_set hu with h1 | rfl
    · exact z_hv_at hv e1 u h1
    · exact hx
set_option maxHeartbeats 8000000 in
theorem z_hp_ok {T : zT} {own nm : String} {Ts : List Cond} {i : Instr} {len a b pc2 dc ds nL : Nat} {st st2 : List Value} {h2 : zH} (hh : z_hp T i pc a b st h = some (pc2, st2, h2, dc, ds)) (ho : z_okh cl scl tf nw T own nm Ts i len pc a b) (hc : z_okc cl tf T Ts) (htf : z_tf tf) (hty : ∀ (t : Nat) (x : ClassId × FieldType), tys[t]? = some x → tf[t]? = some x.2) (hty4 : ∀ t : Nat, t < 6 → ∀ ty : FieldType, tf[t]? = some ty → ∃ x : ClassId, tys[t]? = some (x, ty)) (hts : ∀ w ∈ Ts, w.before args s = true) (hown : s.vm.findClass own = some m.cls) (hx : p.tables.exec = Jvm.exec) (hb : c.code = cc) (hml : c.maxLocals = nL) (hlz : ls.size = nL) (hnm : nm = "<init>" → meth.name = "<init>") (hK : va_K D cl tys s) (hst : z_stat scl tf T.1 T.2.1 T.2.2.1 nw A ad0 s) (hx0 : z_ext ad0 ad 0) (hw : z_wd D cl tys A ad h H) (hS : va_S A s.heap H locs) (hA : ∀ q, s.heap.size ≤ q → A q) (hv : z_hv h) (hsv : ∀ v ∈ st, z_vk h.length v) (hR : 1 ≤ R.frames ∧ 20 ≤ R.locals) (hroom : cells + dc ≤ R.cells ∧ slots + ds ≤ R.slots) (hd : decode cc pc = .ok (i, len))
    (k : ∀ (ad2 : Nat → Option Nat) (H2 : Heap) (locs2 : List Loc), z_ext ad ad2 h.length → z_wd D cl tys A ad2 h2 H2 → va_S A s.heap H2 locs2 → z_hv h2 → h.length ≤ h2.length → (∀ v ∈ st2, z_vk h2.length v) → W p l e R s m args below meth c H2 locs2 (cells + dc) (slots + ds) Q (F0 m pc2 ls (st2.map (z_cv ad2)))) : W p l e R s m args below meth c H locs cells slots Q (F0 m pc ls (st.map (z_cv ad))) := by
  have hcons : ∀ {v : Value} {r : List Value}, z_vk h.length v → (∀ u ∈ r, z_vk h.length u) → ∀ u ∈ v :: r, z_vk h.length u := fun h1 h2 u hu => by
    rcases List.mem_cons.mp hu with rfl | hu
    · exact h1
    · exact h2 u hu
  cases i
  case getfield idx =>
    simp only [z_hp] at hh
    simp only [z_okh] at ho
    obtain ⟨rfl, h100, C, F, N, hcl, hbN, hlk⟩ := ho
    split at hh
    · rename_i q r
      split at hh
      · rename_i t vs e1
        split at hh
        · rename_i e2
          subst e2
          split at hh
          · rename_i v e3
            cases hh
            refine z_getf hts hown hx hb hK hst hx0 hw hS e1 h100 e3 hcl (fun h5 => ?_) hbN hlk hd (k ad H locs z_ext.rf hw hS hv (Nat.le_refl _) (hcons (z_hgv hst hv e1 v (List.mem_of_getElem? e3)) (fun u hu => hsv u (List.mem_cons_of_mem _ hu))))
            rcases hcl with ⟨-, hcl⟩ | ⟨h6, -⟩
            · exact (hc.1 _ _ hcl).1
            · omega
          · cases hh
        · cases hh
      · cases hh
    · cases hh
  case putfield idx =>
    simp only [z_hp] at hh
    simp only [z_okh] at ho
    obtain ⟨rfl, h50, C, F, N, hcl, hbN, hlk, hfin⟩ := ho
    split at hh
    · rename_i v q r
      split at hh
      · rename_i t vs e1
        split at hh
        · rename_i e2
          obtain ⟨e2, e3, e4⟩ := e2
          subst e2
          cases hh
          have hc1 := hc.1 _ _ hcl
          refine z_putf hts hown hx hb hK hw hS e1 h50 e3 hcl hc1.1 hc1.2.1 hc1.2.2 hbN hlk (hfin.imp id (fun z => ⟨z.1, hnm z.2.1, z.2.2⟩)) e4 hd (fun H1 locs1 hw1 hS1 => ?_)
          exact k ad H1 locs1 z_ext.rf hw1 hS1 (z_setv hv e1 (hsv v List.mem_cons_self)) (by rw [List.length_set]; exact Nat.le_refl _) (fun u hu => by rw [List.length_set]; exact hsv u (List.mem_cons_of_mem _ (List.mem_cons_of_mem _ hu)))
        · cases hh
      · cases hh
    · cases hh
  case getstatic idx =>
    simp only [z_hp] at hh
    simp only [z_okh] at ho
    obtain ⟨rfl, f, e1, hlk⟩ := ho
    rw [e1] at hh
    cases hh
    obtain ⟨g1, g2⟩ := hst.2.1 _ _ e1
    refine va_gets hx hb g2 hS hown (hts _ hlk) (fun _ z => z) hd ?_
    rw [← z_cv_ext hx0 g1]
    exact k ad H locs z_ext.rf hw hS hv (Nat.le_refl _) (hcons (g1.le (Nat.zero_le _)) hsv)
  case ldc idx =>
    simp only [z_okh] at ho
    obtain ⟨rfl, ho⟩ := ho
    rcases ho with ⟨rfl, x, e1, hlk⟩ | ⟨rfl, f, e1, e2, e3⟩
    · simp only [z_hp, e1] at hh
      cases hh
      exact lv_ldc hx hb hown (hts _ hlk) hd (k ad H locs z_ext.rf hw hS hv (Nat.le_refl _) (hcons trivial hsv))
    · simp only [z_hp, e1] at hh
      cases hh
      obtain ⟨g1, t, g2, g3⟩ := hst.2.2.1 _ _ e1
      rw [e2, e3] at g3
      have k1 := k ad H locs z_ext.rf hw hS hv (Nat.le_refl _) (hcons (Or.inr g1) hsv)
      change W p l e R s m args below meth c H locs cells slots Q (F0 m (pc + 2) ls (va_rf (ad f.2.2.2) :: _)) at k1
      rw [hx0 _ (Or.inr g1), g2] at k1
      exact va_ldcS hx hb hown g3 hd k1
  case ldc_w idx =>
    simp only [z_okh] at ho
    obtain ⟨rfl, f, e1, e2, e3⟩ := ho
    simp only [z_hp, e1] at hh
    cases hh
    obtain ⟨g1, t, g2, g3⟩ := hst.2.2.1 _ _ e1
    rw [e2, e3] at g3
    have k1 := k ad H locs z_ext.rf hw hS hv (Nat.le_refl _) (hcons (Or.inr g1) hsv)
    change W p l e R s m args below meth c H locs cells slots Q (F0 m (pc + 3) ls (va_rf (ad f.2.2.2) :: _)) at k1
    rw [hx0 _ (Or.inr g1), g2] at k1
    exact z_ldcSW hx hb hown g3 hd k1
  case ldc2_w idx =>
    simp only [z_okh] at ho
    obtain ⟨rfl, x, e1, hlk⟩ := ho
    simp only [z_hp, e1] at hh
    cases hh
    exact lv_ldc2 hx hb hown (hts _ hlk) hd (k ad H locs z_ext.rf hw hS hv (Nat.le_refl _) (hcons trivial hsv))
  case arraylength =>
    simp only [z_hp] at hh
    simp only [z_okh] at ho
    subst ho
    split at hh
    · rename_i q r
      split at hh
      · rename_i t vs e1
        split at hh
        · rename_i e2
          cases hh
          exact z_alen hty hx hb hK hst hx0 hw hS e1 e2 hd (k ad H locs z_ext.rf hw hS hv (Nat.le_refl _) (hcons trivial (fun u hu => hsv u (List.mem_cons_of_mem _ hu))))
        · cases hh
      · cases hh
    · cases hh
  case iaload =>
    simp only [z_hp] at hh
    simp only [z_okh] at ho
    subst ho
    obtain ⟨i, q, r, vs, v, rfl, e1, e2, e3, e4⟩ := z_ald_inv hh
    cases e4
    exact z_iaload htf hty hx hb hK hst hx0 hw hS e1 e2 e3 hd (k ad H locs z_ext.rf hw hS hv (Nat.le_refl _) (hcons (z_hgv hst hv e1 v (List.mem_of_getElem? e3)) (fun u hu => hsv u (List.mem_cons_of_mem _ (List.mem_cons_of_mem _ hu)))))
  case baload =>
    simp only [z_hp] at hh
    simp only [z_okh] at ho
    subst ho
    obtain ⟨i, q, r, vs, v, rfl, e1, e2, e3, e4⟩ := z_ald_inv hh
    cases e4
    exact z_baload htf hty hx hb hK hst hx0 hw hS e1 e2 e3 hd (k ad H locs z_ext.rf hw hS hv (Nat.le_refl _) (hcons (z_hgv hst hv e1 v (List.mem_of_getElem? e3)) (fun u hu => hsv u (List.mem_cons_of_mem _ (List.mem_cons_of_mem _ hu)))))
  case aaload =>
    simp only [z_hp] at hh
    simp only [z_okh] at ho
    subst ho
    split at hh
    · rename_i i q r
      split at hh
      · rename_i t vs e1
        split at hh
        · rename_i e2
          split at hh
          · rename_i v e3
            cases hh
            exact z_aaload htf hty hx hb hK hst hx0 hw hS e1 e2.1 e2.2 e3 hd (k ad H locs z_ext.rf hw hS hv (Nat.le_refl _) (hcons (z_hgv hst hv e1 v (List.mem_of_getElem? e3)) (fun u hu => hsv u (List.mem_cons_of_mem _ (List.mem_cons_of_mem _ hu)))))
          · cases hh
        · cases hh
      · cases hh
    · cases hh
  case iastore =>
    simp only [z_hp] at hh
    simp only [z_okh] at ho
    subst ho
    split at hh
    · rename_i x i q r
      split at hh
      · rename_i t vs e1
        split at hh
        · rename_i e2
          obtain ⟨e2, e3, e4⟩ := e2
          subst e2
          cases hh
          refine z_iastore htf hty hx hb hK hw hS e1 e3 e4 hd (fun H1 locs1 hw1 hS1 => ?_)
          exact k ad H1 locs1 z_ext.rf hw1 hS1 (z_setv hv e1 trivial) (by rw [List.length_set]; exact Nat.le_refl _) (fun u hu => by rw [List.length_set]; exact hsv u (List.mem_cons_of_mem _ (List.mem_cons_of_mem _ (List.mem_cons_of_mem _ hu))))
        · cases hh
      · cases hh
    · cases hh
  case bastore =>
    simp only [z_hp] at hh
    simp only [z_okh] at ho
    subst ho
    split at hh
    · rename_i x i q r
      split at hh
      · rename_i t vs e1
        split at hh
        · rename_i e2
          obtain ⟨e2, e3, e4⟩ := e2
          subst e2
          cases hh
          refine z_bastore htf hty hx hb hK hw hS e1 e3 e4 hd (fun H1 locs1 hw1 hS1 => ?_)
          exact k ad H1 locs1 z_ext.rf hw1 hS1 (z_setv hv e1 trivial) (by rw [List.length_set]; exact Nat.le_refl _) (fun u hu => by rw [List.length_set]; exact hsv u (List.mem_cons_of_mem _ (List.mem_cons_of_mem _ (List.mem_cons_of_mem _ hu))))
        · cases hh
      · cases hh
    · cases hh
  case aastore =>
    simp only [z_hp] at hh
    simp only [z_okh] at ho
    subst ho
    split at hh
    · rename_i i q r
      split at hh
      · rename_i t vs e1
        split at hh
        · rename_i e2
          cases hh
          refine z_aastoreN htf hty hx hb hK hw hS e1 e2.1 e2.2.1 e2.2.2 hd (fun H1 locs1 hw1 hS1 => ?_)
          exact k ad H1 locs1 z_ext.rf hw1 hS1 (z_setv hv e1 trivial) (by rw [List.length_set]; exact Nat.le_refl _) (fun u hu => by rw [List.length_set]; exact hsv u (List.mem_cons_of_mem _ (List.mem_cons_of_mem _ (List.mem_cons_of_mem _ hu))))
        · cases hh
      · cases hh
    · rename_i w0 i q r
      split at hh
      · rename_i t vs tw vw e1 e5
        split at hh
        · rename_i e2
          obtain ⟨⟨e2, e2'⟩, e3, e4, e6⟩ := e2
          cases hh
          obtain ⟨ws9, -, -, hr9⟩ := id hw
          obtain ⟨q9, cA9, ty9, x9, g1, g2, g3, g4, g5⟩ := z_dyn hr9 e1 (show 100 ≤ t by omega) hty
          dsimp only at g3 g4
          obtain ⟨h50, r9, g6, g7⟩ := hc.2 t e2 e2' ty9 g4
          rw [← e6] at h50 g6
          subst g7
          refine z_aastore htf hty hx hb hK hw hS e1 e2 e3 e4 e5 h50 g6 g4 hd (fun H1 locs1 hw1 hS1 => ?_)
          exact k ad H1 locs1 z_ext.rf hw1 hS1 (z_setv hv e1 (hsv _ List.mem_cons_self)) (by rw [List.length_set]; exact Nat.le_refl _) (fun u hu => by rw [List.length_set]; exact hsv u (List.mem_cons_of_mem _ (List.mem_cons_of_mem _ (List.mem_cons_of_mem _ hu))))
        · cases hh
      · cases hh
    · cases hh
  case new idx =>
    simp only [z_hp] at hh
    simp only [z_okh] at ho
    obtain ⟨rfl, h50, C, F, hcl, hdf, hnr, h1, h2', h3⟩ := ho
    obtain ⟨hn, e1⟩ := z_mk_inv hh
    cases e1
    have hc1 := hc.1 _ _ hcl
    refine z_new hts hown hx hb hK hw hS hA hv h50 hcl hc1.1 hc1.2.1 hdf (fun v hv' f => by rcases hnr v hv' with rfl | rfl <;> rfl) h1 h2' h3 hn hroom.1 hroom.2 hd (fun ad2 H1 hx1 hw1 hS1 => ?_)
    have k1 := k ad2 H1 locs hx1 hw1 hS1 (z_hv_push hv (fun v hv' => by rcases hnr v hv' with rfl | rfl <;> trivial)) (by simp) (fun u hu => by
      rcases List.mem_cons.mp hu with rfl | hu
      · exact Or.inl (by simp)
      · exact (hsv u hu).le (by simp))
    rw [List.map_cons, z_map_ext hx1 hsv] at k1
    exact k1
  case newarray t =>
    simp only [z_hp] at hh
    simp only [z_okh] at ho
    obtain ⟨rfl, h1⟩ := ho
    split at hh
    · rename_i n r
      split at hh
      · rename_i e1
        have hr : ∀ v ∈ r, z_vk h.length v := fun u hu => hsv u (List.mem_cons_of_mem _ hu)
        split at hh
        · obtain ⟨hn, e2⟩ := z_mk_inv hh
          cases e2
          obtain ⟨x, hx2⟩ := hty4 0 (by decide) .int htf.1
          refine z_newa_int hts hx hb hK hw hS hA hv h1 hx2 e1.1 e1.2 hn hroom.1 hroom.2 hd (fun ad2 H1 hx1 hw1 hS1 => ?_)
          have k1 := k ad2 H1 locs hx1 hw1 hS1 (z_hv_push hv (fun v hv' => by rw [List.eq_of_mem_replicate hv']; trivial)) (by simp) (fun u hu => by
            rcases List.mem_cons.mp hu with rfl | hu
            · exact Or.inl (by simp)
            · exact (hr u hu).le (by simp))
          rw [List.map_cons, z_map_ext hx1 hr] at k1
          exact k1
        · obtain ⟨hn, e2⟩ := z_mk_inv hh
          cases e2
          obtain ⟨x, hx2⟩ := hty4 1 (by decide) .byte htf.2.1
          refine z_newa_byte hts hx hb hK hw hS hA hv h1 hx2 e1.1 e1.2 hn hroom.1 hroom.2 hd (fun ad2 H1 hx1 hw1 hS1 => ?_)
          have k1 := k ad2 H1 locs hx1 hw1 hS1 (z_hv_push hv (fun v hv' => by rw [List.eq_of_mem_replicate hv']; trivial)) (by simp) (fun u hu => by
            rcases List.mem_cons.mp hu with rfl | hu
            · exact Or.inl (by simp)
            · exact (hr u hu).le (by simp))
          rw [List.map_cons, z_map_ext hx1 hr] at k1
          exact k1
        · cases hh
      · cases hh
    · cases hh
  case anewarray idx =>
    simp only [z_hp] at hh
    simp only [z_okh] at ho
    obtain ⟨rfl, ⟨h104, h106⟩, C, htC, h1, hAO⟩ := ho
    split at hh
    · rename_i n r
      split at hh
      · rename_i e1
        have hr : ∀ v ∈ r, z_vk h.length v := fun u hu => hsv u (List.mem_cons_of_mem _ hu)
        obtain ⟨hn, e2⟩ := z_mk_inv hh
        cases e2
        obtain ⟨x, hx2⟩ := hty4 (a - 100) (by omega) _ htC
        refine z_newq hts hown hx hb hK hw hS hA hv h1 (hst.2.2.2.2.2 _ hAO) (by omega) hx2 e1.1 e1.2 hn hroom.1 hroom.2 hd (fun ad2 H1 hx1 hw1 hS1 => ?_)
        have k1 := k ad2 H1 locs hx1 hw1 hS1 (z_hv_push hv (fun v hv' => by rw [List.eq_of_mem_replicate hv']; trivial)) (by simp) (fun u hu => by
          rcases List.mem_cons.mp hu with rfl | hu
          · exact Or.inl (by simp)
          · exact (hr u hu).le (by simp))
        rw [List.map_cons, z_map_ext hx1 hr] at k1
        exact k1
      · cases hh
    · cases hh
  case invokespecial idx =>
    simp only [z_hp] at hh
    simp only [z_okh] at ho
    obtain ⟨rfl, h1, h2', h3⟩ := ho
    split at hh
    · rename_i q r
      split at hh
      · rename_i c9 e1
        split at hh
        · rename_i e2
          have e3 := z_cs_map ad r
          cases hh
          obtain ⟨a9, g1⟩ := z_hg_ad hst hx0 hw e1
          have k1 := k ad H locs z_ext.rf hw hS hv (Nat.le_refl _) (fun u hu => hsv u (List.mem_cons_of_mem _ hu))
          rw [List.map_cons, show z_cv ad (.ref q) = .ref a9 from congrArg va_rf g1]
          refine W.objInit hx hb hown (hts _ h1) (hts _ h2') (hts _ h3) rfl (by rw [hml]; exact hlz) rfl hd hR.1 ?_ k1
          show 2 * 0 + _ + 12 ≤ _
          omega
        · cases hh
      · cases hh
    · cases hh
  case invokestatic idx =>
    simp only [z_hp] at hh
    simp only [z_okh] at ho
    obtain ⟨rfl, ho⟩ := ho
    split at hh
    · rename_i y x r
      split at hh
      · rename_i e2
        have e3 := z_cs_map ad r
        cases hh
        have k1 := k ad H locs z_ext.rf hw hS hv (Nat.le_refl _) (fun u hu => by
          rcases List.mem_cons.mp hu with rfl | hu
          · trivial
          · exact hsv u (List.mem_cons_of_mem _ (List.mem_cons_of_mem _ hu)))
        rcases ho with ⟨rfl, h1, h2', h3, h4⟩ | ⟨rfl, h1, h2', h3, h4⟩
        · exact va_mmax hx hb (hml.trans hlz.symm) hown (hts _ h1) (hts _ h2') (hts _ h3) (hts _ h4) hR.1 (by rw [e3]; omega) (by omega) (by omega) hd k1
        · exact va_mmin hx hb (hml.trans hlz.symm) hown (hts _ h1) (hts _ h2') (hts _ h3) (hts _ h4) hR.1 (by rw [e3]; omega) (by omega) (by omega) hd k1
      · cases hh
    · cases hh
  case ifnull off =>
    simp only [z_hp] at hh
    simp only [z_okh] at ho
    obtain ⟨rfl, h1⟩ := ho
    split at hh
    · cases hh
      exact lv_ifnullN hx hb hd h1 (k ad H locs z_ext.rf hw hS hv (Nat.le_refl _) (fun u hu => hsv u (List.mem_cons_of_mem _ hu)))
    · rename_i q r
      split at hh
      · rename_i c9 e1
        cases hh
        obtain ⟨a9, g1⟩ := z_hg_ad hst hx0 hw e1
        rw [List.map_cons, show z_cv ad (.ref q) = .ref a9 from congrArg va_rf g1]
        exact lv_ifnull hx hb hd (k ad H locs z_ext.rf hw hS hv (Nat.le_refl _) (fun u hu => hsv u (List.mem_cons_of_mem _ hu)))
      · cases hh
    · cases hh
  case ifnonnull off =>
    simp only [z_hp] at hh
    simp only [z_okh] at ho
    obtain ⟨rfl, h1⟩ := ho
    split at hh
    · cases hh
      exact lv_ifnonnullN hx hb hd (k ad H locs z_ext.rf hw hS hv (Nat.le_refl _) (fun u hu => hsv u (List.mem_cons_of_mem _ hu)))
    · rename_i q r
      split at hh
      · rename_i c9 e1
        cases hh
        obtain ⟨a9, g1⟩ := z_hg_ad hst hx0 hw e1
        rw [List.map_cons, show z_cv ad (.ref q) = .ref a9 from congrArg va_rf g1]
        exact lv_ifnonnull hx hb hd h1 (k ad H locs z_ext.rf hw hS hv (Nat.le_refl _) (fun u hu => hsv u (List.mem_cons_of_mem _ hu)))
      · cases hh
    · cases hh
  case if_acmp c0 off =>
    simp only [z_hp] at hh
    simp only [z_okh] at ho
    obtain ⟨rfl, h1⟩ := ho
    split at hh
    · split at hh
      · rename_i y x r
        have hr : ∀ v ∈ r, z_vk h.length v := fun u hu => hsv u (List.mem_cons_of_mem _ (List.mem_cons_of_mem _ hu))
        split at hh
        · rename_i e1
          obtain ⟨e1, e2, e3, e4⟩ := e1
          refine lv_acmp_ne (rx := ad x) (ry := ad y) hx hb hd h1 (fun z => ?_) (fun z => ?_)
          · split at hh
            · rename_i e5
              exact absurd (by rw [e5]) z
            · cases hh
              exact k ad H locs z_ext.rf hw hS hv (Nat.le_refl _) hr
          · split at hh
            · cases hh
              exact k ad H locs z_ext.rf hw hS hv (Nat.le_refl _) hr
            · rename_i e5
              rw [hx0 _ (Or.inr e1), hx0 _ (Or.inr e3)] at z
              exact absurd (hst.2.2.2.1 x y e1 e2 e3 e4 z) e5
        · cases hh
      · cases hh
    · cases hh
  all_goals (simp [z_hp] at hh)
end ZQ
