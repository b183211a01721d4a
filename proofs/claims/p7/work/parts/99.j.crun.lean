/-! THE CLASS'S runScript. -/
section YCM
variable {N : Nat} {B : yB} {h : zH} {A : zA} {nu : Nat → Int}
theorem yc_head (hN : 3000 ≤ N) (Y : yc B h A nu) : (yz_h (yW B) = none ∧ ∃ h' A' nu', fC_runHead N 203 h = some (Int32.ofInt 0, h') ∧ yc B h' A' nu' ∧ zc_F h h' ∧ ∀ i, i < 2 → nu' i = nu i) ∨ (∃ A' e, yz_h (yW B) = some (A', e) ∧ e ≤ (yW B).length ∧ ∃ h' nu', fC_runHead N 203 h = some (Int32.ofInt 1, h') ∧ yc B h' A' nu' ∧ zc_F h h' ∧ nu' 6 = (e : Int) ∧ nu' 8 = 0 ∧ nu' 9 = 0 ∧ ∀ i, i < 2 → nu' i = nu i) := by
  obtain ⟨h1, e1, Y1, F1⟩ := yc_s Y 2 (by decide) 0
  obtain ⟨h2, e2, Y2, F2⟩ := yc_s Y1 3 (by decide) (-1)
  obtain ⟨h3, e3, Y3, F3⟩ := yc_s Y2 6 (by decide) 0
  obtain ⟨h4, e4, Y4, F4⟩ := yc_s Y3 8 (by decide) 0
  obtain ⟨h5, e5, Y5, F5⟩ := yc_s Y4 9 (by decide) 0
  have FF := zc_Ft F1 (zc_Ft F2 (zc_Ft F3 (zc_Ft F4 F5)))
  generalize hn : zc_u (zc_u (zc_u (zc_u (zc_u nu 2 0) 3 (-1)) 6 0) 8 0) 9 0 = n5 at Y5
  have n6 : n5 6 = ((0 : Nat) : Int) := by
    rw [← hn, zc_un _ _ (show (6 : Nat) ≠ 9 by decide), zc_un _ _ (show (6 : Nat) ≠ 8 by decide), zc_us]
    rfl
  have n8 : n5 8 = 0 := by rw [← hn, zc_un _ _ (show (8 : Nat) ≠ 9 by decide), zc_us]
  have n9 : n5 9 = 0 := by rw [← hn, zc_us]
  have n01 : ∀ i, i < 2 → n5 i = nu i := fun i hi => by rw [← hn, zc_un _ _ (by omega), zc_un _ _ (by omega), zc_un _ _ (by omega), zc_un _ _ (by omega), zc_un _ _ (by omega)]
  obtain ⟨h6, m6, e6, Y6, F6, K6⟩ := yc_tok (N := N) (by omega) Y5 n6 (Nat.zero_le _)
  have y6 : yn n5 m6 := fun i hi => K6.2.2.2.2.2 i (by omega)
  have F06 := zc_Ft FF F6
  have qb := yt_qb (yW B) (yt_s (yW B) 0)
  have sb := yt_sb (Nat.zero_le (yW B).length)
  have eb := yt_eb sb.2
  obtain ⟨h7, n7, e7, Y7, F7, r7⟩ := yc_fail (N := N) Y6 1
  have f57 : fC_runHead_57 N 203 h6 = some (Int32.ofInt 0, h7) := by
    unfold fC_runHead_57
    rw [e7, b2]
    rfl
  have fx : ∀ i, i < 2 → n7 i = nu i := fun i hi => (r7 i (by omega) (by omega)).trans ((y6 i (by omega)).trans (n01 i hi))
  unfold fC_runHead
  rw [yc_T Y, cond_true, e1, b1_s, e2, b1_s, e3, b1_s, e4, b1_s, e5, b1_s, e6, b2, yc_i Y6 4 (by decide), b1_s, K6.1, zqo_ne _ _ (by omega) (by decide)]
  by_cases q1 : yt_q (yW B) (yt_s (yW B) 0) = 1
  · rw [decide_eq_true (by omega), Bool.not_true, cond_false, yc_r0 Y6, b1_s, yc_i Y6 5 (by decide), b1_s, K6.2.1, yc_i Y6 6 (by decide), b1_s, K6.2.2.1, yS_eq (yc_W Y6) (by omega) (b := yt_letters) yS_45 (by decide) eb.1 eb.2.1, b2]
    by_cases q2 : zw_p (yW B) (yt_s (yW B) 0) (yt_e (yW B) (yt_s (yW B) 0)) = yt_letters
    · rw [decide_eq_true q2, cond_true, show z_cmp .ne (Int32.ofInt 1) (Int32.ofInt 0) = true from rfl, cond_true]
      have ez : yz_h (yW B) = (ym_num (yW B) (yt_e (yW B) (yt_s (yW B) 0)) 2 9).bind fun n => (ym_sem (yW B) n.2).bind fun e => some ((n.1, [], []), e) := if_pos ⟨q1, q2⟩
      rw [ez]
      rcases yc_num (N := N) (by omega) Y6 K6.2.2.1 eb.2.1 2 9 (by decide) (by decide) with ⟨v, e, m1, h8, k8, e8, Y8, F8, y8, p8, v8⟩ | ⟨m1, h8, k8, e8, Y8, F8, y8⟩
      · obtain ⟨_, _, _, pe, el, vl0, vl, _⟩ := ym_numb eb.2.1 m1
        rw [e8, b2, show z_cmp .eq (Int32.ofInt 1) (Int32.ofInt 0) = false from rfl, cond_false]
        rcases yc_sem (N := N) (by omega) Y8 p8 el with ⟨e', m2, h9, k9, e9, Y9, F9, y9, p9, v9⟩ | ⟨m2, h9, k9, e9, Y9, F9, y9⟩
        · obtain ⟨_, _, _, el'⟩ := ym_semb el m2
          obtain ⟨S, H, hS, cl⟩ := yc_st Y9
          obtain ⟨h10, e10, H10, F10⟩ := zs_clear (N := N) H (L' := v) (by omega)
          obtain ⟨Y10, G10⟩ := cl h10 _ _ _ _ H10 F10 ⟨by show 2 ≤ v ∧ v ≤ 9; omega, Nat.zero_le _, (fun u hu => by cases hu), Nat.zero_le _, (fun w hw => by cases hw)⟩
          have yy := yn_t y6 (yn_t y8 y9)
          refine Or.inr ⟨(v, [], []), e', ?_, el', h10, k9, ?_, Y10, zc_Ft F06 (zc_Ft F8 (zc_Ft F9 G10)), p9, (yy 8 (by omega)).trans n8, (yy 9 (by omega)).trans n9, fun i hi => (yy i (by omega)).trans (n01 i hi)⟩
          · rw [m1]
            show (ym_sem (yW B) e).bind _ = _
            rw [m2]
            rfl
          · rw [e9, b2, show z_cmp .ne (Int32.ofInt 1) (Int32.ofInt 0) = true from rfl, cond_true, yc_r1 Y9, b1_s, yc_i Y9 7 (by decide), b1_s, v9, v8, e10, b2]
        · refine Or.inl ⟨?_, h9, A, k9, ?_, Y9, zc_Ft F06 (zc_Ft F8 F9), fun i hi => (yn_t y6 (yn_t y8 y9) i (by omega)).trans (n01 i hi)⟩
          · rw [m1]
            show (ym_sem (yW B) e).bind _ = _
            rw [m2]
            rfl
          · rw [e9, b2, show z_cmp .ne (Int32.ofInt 0) (Int32.ofInt 0) = false from rfl, cond_false]
            rfl
      · refine Or.inl ⟨?_, h8, A, k8, ?_, Y8, zc_Ft F06 F8, fun i hi => (yn_t y6 y8 i (by omega)).trans (n01 i hi)⟩
        · rw [m1]
          rfl
        · rw [e8, b2, show z_cmp .eq (Int32.ofInt 0) (Int32.ofInt 0) = true from rfl, cond_true]
          rfl
    · refine Or.inl ⟨if_neg (fun x => q2 x.2), h7, A, n7, ?_, Y7, zc_Ft F06 F7, fx⟩
      rw [decide_eq_false q2, cond_false, show z_cmp .ne (Int32.ofInt 0) (Int32.ofInt 0) = false from rfl, cond_false]
      exact f57
  · refine Or.inl ⟨if_neg (fun x => q1 x.1), h7, A, n7, ?_, Y7, zc_Ft F06 F7, fx⟩
    rw [decide_eq_false (by omega), Bool.not_false, cond_true]
    exact f57
theorem yRP_2 : yRP N B 2 1 (fun _ _ _ => none) := by
  intro h A nu ex p j Y h6 hp h8 hx h9 hj
  obtain ⟨h1, n1, e1, Y1, F1, r1⟩ := yc_fail (N := N) Y 4
  refine Or.inl ⟨yF_K ⟨h1, A, n1, ?_, Y1, F1, fun i hi => r1 i (by omega) (by omega)⟩, fun A' ex' q e => by cases e⟩
  unfold fC_openRepeat
  rw [yc_T Y, cond_true, yc_i Y 9 (by decide), b1_s, h9, zqo_lt _ _ (by omega) (by decide), decide_eq_false (by omega), cond_false, b1_s, yc_r10 Y, b1_s, yc_n10 Y, b1_s, zqo_ge _ _ (by omega) (by decide), decide_eq_true (by omega), cond_true]
  unfold fC_openRepeat_31
  rw [e1, b2]
  rfl
theorem yBP_of {k κ : Nat} {rp : zA → Nat → Nat → Option (zA × Nat × Nat)} (hN : 1000001 ≤ N) (hk : 1 ≤ k ∧ k ≤ 2) (hκ : 1 ≤ κ) (RP : yRP N B k κ rp) (D : yPd rp (yW B)) (b : Nat) (hb : b ≤ (yW B).length) : yBP N B k κ b (fun A ex => yb rp (yW B) 4 ((yW B).length + 1) A ex b) := fun h A nu ex j Y h6 h8 hx h9 hj => yb_run hN hk.2 hκ (Or.inr ⟨rfl, hk.1⟩) RP D _ h A nu ex b j Y h6 hb (by omega) h8 hx h9 hj
/-- all commands behind the head -/
theorem yL_run (hN : 1000001 ≤ N) (Y : yc B h A nu) {p : Nat} (h6 : nu 6 = (p : Int)) (hp : p ≤ (yW B).length) (h8 : nu 8 = 0) (h9 : nu 9 = 0) : (yL0 (yW B) A p = none ∧ yF B h nu (yg N 0 h)) ∨ (∃ x, yL0 (yW B) A p = some x ∧ ∃ h' nu', yg N 0 h = some (Int32.ofInt 1, h') ∧ yc B h' x.1 nu' ∧ zc_F h h' ∧ ∀ i, i < 2 → nu' i = nu i) := by
  have l6 := (yc_W Y).2.2.2.1
  have P2 := yBP_of (k := 2) (κ := 1) (rp := fun _ _ _ => none) (N := N) (B := B) hN (by decide) (by decide) yRP_2 (fun _ _ _ _ _ _ _ h => by cases h)
  have R1 : yRP N B 1 20 (yR1 (yW B)) := yp_run (κ := 1) hN (by decide) (by decide) P2 (yL2_det _)
  have P1 := yBP_of (k := 1) (κ := 20) (N := N) (B := B) hN (by decide) (by decide) R1 (yR1_det _)
  have R0 : yRP N B 0 400 (yR0 (yW B)) := yp_run (κ := 20) hN (by decide) (by decide) P1 (yL1_det _)
  have o := yb_run (cl := 0) hN (Nat.zero_le 2) (show 1 ≤ 400 by decide) (Or.inl ⟨rfl, rfl⟩) R0 (yR0_det _) ((yW B).length + 1) h A nu 0 p 0 Y h6 hp (by omega) h8 (by decide) h9 (by decide)
  change yG N B h nu 0 (yg N 0 h) 0 400 p (yL0 (yW B) A p) at o
  rcases o with ⟨f1, f2⟩ | ⟨A', ex', q, f1, m, h1, n1, q1, q2, q3, Y1, F1, q6, q8, qx, q9, qf⟩
  · refine Or.inl ⟨?_, f1⟩
    cases e : yL0 (yW B) A p with
    | none => rfl
    | some r =>
      obtain ⟨A', ex', q⟩ := r
      have d := (yb_det (yR0_det _) _ _ _ _ _ _ _ hp e).2.1
      have := f2 _ _ _ e
      omega
  · obtain ⟨d1, d2, d3, _⟩ := yb_det (yR0_det _) _ _ _ _ _ _ _ hp f1
    obtain ⟨h2, n2, Y2, F2, K2, g1, _, _⟩ := yg_tok hN Y1 q6 d2 q9 (by decide) (show 0 + m < 1000000 by omega)
    exact Or.inr ⟨(A', ex', q), f1, h2, n2, by rw [q3, g1 d3 rfl], Y2, zc_Ft F1 F2, fun i hi => (K2.2.2.2.2.2 i (by omega)).trans (qf i (Or.inl hi))⟩
theorem yc_run (hN : 1000001 ≤ N) (Y : yc B h A nu) : (yz (yW B) = none ∧ yF B h nu (fC_run N 203 h)) ∨ (∃ A', yz (yW B) = some A' ∧ ∃ h' nu', fC_run N 203 h = some (Int32.ofInt 1, h') ∧ yc B h' A' nu' ∧ zc_F h h' ∧ ∀ i, i < 2 → nu' i = nu i) := by
  unfold fC_run yz
  rw [yc_T Y, cond_true]
  rcases yc_head (N := N) (by omega) Y with ⟨z1, h1, A1, n1, e1, Y1, F1, r1⟩ | ⟨A1, e, z1, el, h1, n1, e1, Y1, F1, p6, p8, p9, r1⟩
  · refine Or.inl ⟨by rw [z1]; rfl, h1, A1, n1, ?_, Y1, F1, r1⟩
    rw [e1, b2]
    rfl
  · rw [z1, e1, b2, show z_cmp .ne (Int32.ofInt 1) (Int32.ofInt 0) = true from rfl, cond_true]
    rcases yL_run hN Y1 p6 el p8 p9 with ⟨z2, o⟩ | ⟨x, z2, h2, n2, e2, Y2, F2, r2⟩
    · refine Or.inl ⟨?_, yF_t F1 r1 o⟩
      show (yL0 (yW B) A1 e).bind _ = _
      rw [z2]
      rfl
    · refine Or.inr ⟨x.1, ?_, h2, n2, e2, Y2, zc_Ft F1 F2, fun i hi => (r2 i hi).trans (r1 i hi)⟩
      show (yL0 (yW B) A1 e).bind _ = _
      rw [z2]
      rfl
end YCM
section YCN
variable {N : Nat} {h : zH} {now snap : zA} {hist : List zA} {sv : Int} {inp : List Nat} {rep : zvP}
theorem zv_r21 (V : zv h now hist snap sv inp rep) : fR h 203 2 1 = some 206 := by
  obtain ⟨sL, sT, sS, sK, wd, nu, hs, C, _⟩ := V
  exact zc_r21 C
/-- the script's state with the view -/
theorem zv_scr (V : zv h now hist snap sv inp rep) : ∃ B A nu, yc B h A nu ∧ yW B = inp ∧ ∀ h' A' nu', yc B h' A' nu' → (∀ i, i < 2 → nu' i = nu i) → zv h' now hist snap sv inp (rep.1, nu' 2, nu' 3) ∧ (∃ S, zs_S h' 206 A'.1 A'.2.1 S A'.2.2.length ∧ (List.range A'.2.2.length).map S = A'.2.2) := by
  obtain ⟨sL, sT, sS, sK, wd, nu, hs, C, v1, v2, v3, v4, v5, v6, v7, v8, v9⟩ := V
  have q206 : zc_Q 206 := Or.inr (Or.inr rfl)
  refine ⟨(sL, sT, sS, sK, wd, hs), zv_a sL sT sS sK 206, nu, ⟨sS 206, ?_, ?_, v9 206 q206⟩, v7, fun h' A' nu' Y fr => ?_⟩
  · show zc h (zc_u sL 206 (sL 206)) (zc_u sT 206 (sT 206)) (zc_u sS 206 (sS 206)) (zc_u sK 206 ((List.range (sK 206)).map (sS 206)).length) wd nu hs
    rw [List.length_map, List.length_range, zc_ue, zc_ue, zc_ue, zc_ue]
    exact C
  · show (List.range ((List.range (sK 206)).map (sS 206)).length).map (sS 206) = (List.range (sK 206)).map (sS 206)
    rw [List.length_map, List.length_range]
  · obtain ⟨S, C', hS, ok⟩ := Y
    change zc h' (zc_u sL 206 A'.1) (zc_u sT 206 A'.2.1) (zc_u sS 206 S) (zc_u sK 206 A'.2.2.length) wd nu' hs at C'
    have un : ∀ q, q ≠ 206 → zv_a (zc_u sL 206 A'.1) (zc_u sT 206 A'.2.1) (zc_u sS 206 S) (zc_u sK 206 A'.2.2.length) q = zv_a sL sT sS sK q := fun q hq => by
      unfold zv_a
      rw [zc_un _ _ hq, zc_un _ _ hq, zc_un _ _ hq, zc_un _ _ hq]
    have H := zc_st C' q206
    rw [zc_us, zc_us, zc_us, zc_us] at H
    refine ⟨⟨_, _, _, _, _, _, _, C', ?_, (fr 1 (by decide)).trans v2, v3, fun i hi => ?_, ?_, (fr 0 (by decide)).trans v6, v7, ⟨v8.1, rfl, rfl⟩, fun q hq => ?_⟩, S, H, hS⟩
    · rw [un 1 (by decide)]
      exact v1
    · have hq : hs i ≠ 206 := by
        obtain ⟨k, k1, k2⟩ := C.2.2.2.2.2.2.2.2.1 i (by omega)
        omega
      rw [un _ hq]
      exact v4 i hi
    · rw [un 183 (by decide)]
      exact v5
    · by_cases e : q = 206
      · rw [e]
        unfold zv_a
        rw [zc_us, zc_us, zc_us, zc_us, hS]
        exact ok
      · rw [un q e]
        exact v9 q hq
/-- a remembered state leaves the script's as it is -/
theorem zv_rem206 (V : zv h now hist snap sv inp rep) (hN : 1000 ≤ N) {h1 : zH} (e : fH_remember N 21 1 h = some ((), h1)) {L K : Nat} {T : List Nat} {S : Nat → List Nat} (H : zs_S h 206 L T S K) : ∃ S', zs_S h1 206 L T S' K ∧ ∀ j, j < K → S' j = S j := by
  obtain ⟨sL, sT, sS, sK, wd, nu, hs, C, v1, v2, v3, v4, v5, v6, v7, v8, v9⟩ := V
  have q206 : zc_Q 206 := Or.inr (Or.inr rfl)
  have D : ∀ (sL : Nat → Nat) (sT : Nat → List Nat) (sS : Nat → Nat → List Nat) (sK : Nat → Nat), True := fun _ _ _ _ => trivial
  have C2 : zc h (zc_u sL 206 L) (zc_u sT 206 T) (zc_u sS 206 S) (zc_u sK 206 K) wd nu hs := (zc_state C q206 H (zs_Fr h 206)).1
  obtain ⟨h2, S2, hs2, e2, d2, C3, r2, F2⟩ := zc_remember (N := N) C2 hN v2 v3
  rw [e] at e2
  cases e2
  obtain ⟨k, k1, k2⟩ := C3.2.2.2.2.2.2.2.2.1 (min hist.length 7) (by omega)
  have H3 := zc_st C3 q206
  have ne : (206 : Nat) ≠ hs2 (min hist.length 7) := by omega
  rw [zc_un _ _ ne, zc_un _ _ ne, zc_un _ _ ne, zc_un _ _ ne, zc_us, zc_us, zc_us, zc_us] at H3
  exact ⟨S, H3, fun _ _ => rfl⟩
theorem zk_runScript (V : zv h now hist snap sv inp rep) (hN : 1000001 ≤ N) : ∃ k o : Int, (yz inp = none ∧ ∃ h', fB_runScript N 0 h = some (Int32.ofInt (-1), h') ∧ zv h' now hist snap sv [] (rep.1, k, o) ∧ zc_F h h') ∨ (∃ A, yz inp = some A ∧ ∃ h', fB_runScript N 0 h = some (Int32.ofInt (A.2.1.length : Int), h') ∧ zv h' A (zv_push hist now) snap sv [] (rep.1, k, o) ∧ zc_F h h') := by
  obtain ⟨B, A0, nu, Y, hW, cl⟩ := zv_scr V
  unfold fB_runScript
  rw [zv_T0 V, cond_true, zv_r04 V, b1_s]
  rcases yc_run hN Y with ⟨z1, h1, A1, n1, e1, Y1, F1, r1⟩ | ⟨A1, z1, h1, n1, e1, Y1, F1, r1⟩
  · obtain ⟨V1, _⟩ := cl h1 A1 n1 Y1 r1
    obtain ⟨I1, ci⟩ := zv_inp V1
    obtain ⟨h2, e2, W2, F2⟩ := zw_clear (N := N) I1
    obtain ⟨V2, G2⟩ := ci h2 _ W2 F2
    rw [hW] at z1
    refine ⟨n1 2, n1 3, Or.inl ⟨z1, h2, ?_, V2, zc_Ft F1 G2⟩⟩
    rw [e1, b2, zv_r04 V1, b1_s, zv_r20 V1, b1_s, e2, b2, show z_cmp .ne (Int32.ofInt 0) (Int32.ofInt 0) = false from rfl, cond_false]
  · obtain ⟨V1, S1, H1, hS1⟩ := cl h1 A1 n1 Y1 r1
    obtain ⟨I1, ci⟩ := zv_inp V1
    obtain ⟨h2, e2, W2, F2⟩ := zw_clear (N := N) I1
    obtain ⟨V2, G2⟩ := ci h2 _ W2 F2
    have H2 := zs_keepo H1 F2 (by omega)
    obtain ⟨h3, e3, V3, F3⟩ := zv_remember (N := N) V2 (by omega)
    obtain ⟨S3, H3, q3⟩ := zv_rem206 V2 (by omega) e3 H2
    obtain ⟨ok3, S4, H4, hS4, cl4⟩ := zv_open V3
    obtain ⟨h5, S5, e5, H5, q5, F5⟩ := zs_copy (N := N) (by omega) (by omega) H4 H3
    have ok1 := yc_ok Y1
    have mS : (List.range A1.2.2.length).map S5 = A1.2.2 := (zv_map (fun j hj => (q5 j hj).trans (q3 j hj))).trans hS1
    obtain ⟨V5, G5⟩ := cl4 h5 _ _ _ _ H5 F5 (by rw [mS]; exact ok1)
    rw [mS] at V5
    rw [hW] at z1
    refine ⟨n1 2, n1 3, Or.inr ⟨A1, z1, h5, ?_, V5, zc_Ft F1 (zc_Ft G2 (zc_Ft F3 G5))⟩⟩
    rw [e1, b2, zv_r04 V1, b1_s, zv_r20 V1, b1_s, e2, b2, show z_cmp .ne (Int32.ofInt 1) (Int32.ofInt 0) = true from rfl, cond_true, zv_r01 V2, b1_s, zv_r00 V2, b1_s, e3, b2, zv_r00 V3, b1_s, zv_r04 V3, b1_s, zv_r21 V3, b1_s, e5, b2, zv_r00 V5, b1_s, zv_t V5, b1_s, zw_z (zv_txt V5), b1_s]
end YCN
