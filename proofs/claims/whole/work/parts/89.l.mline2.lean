/-! THE REFERENCE'S READER: colours, rows, notes -/
def isLf (σ : Pr Nat) : Bool := match σ with
  | .inl _ => true
  | .inr _ => false
section
variable {M : qM} {X C n q : Nat} {tp : Nat → Int32} {σ : Pr Nat} {p : Pl} {lo : Lo} {nm : Nm} {fl : Fl}
theorem MS.o (s : MS M X tp n σ) : ∃ z, vi M X 9 = n32 z ∧ z < 6 ∧ decide (z = 5) = isLf σ := by
  cases σ with
  | inl e => exact ⟨5, s.1, by decide, rfl⟩
  | inr q =>
    have sl := srt_lt (tkK tp n q)
    exact ⟨srt (tkK tp n q), s.2.1.2.1, by omega, by rw [decide_eq_false (by omega)]; rfl⟩
theorem MS.mv {m : qM} (s : MS M X tp n σ) (e : ∀ j, vi m X j = vi M X j) (e2 : vl m X 15 = vl M X 15) : MS m X tp n σ := by
  cases σ with
  | inl y =>
    obtain ⟨s1, s2, s3⟩ := s
    exact ⟨by rw [e]; exact s1, by rw [e]; exact s2, by rw [e]; exact s3⟩
  | inr q =>
    obtain ⟨s1, s2, s3⟩ := s
    refine ⟨s1, ?_, by rw [e]; exact s3⟩
    unfold MTk at s2 ⊢
    rw [e, e, e, e, e, e2]
    exact s2
theorem ClothV.kp {m : qM} (h : ClothV M C p) (e : ∀ a j, ¬ ((a = C + 20 ∨ a = C + 21) ∨ (a = C ∧ (j = 7 ∨ j = 8)) ∨ (C + 2 ≤ a ∧ a ≤ C + 5) ∨ a = C + 7 ∨ a = C + 8 ∨ a = C + 19) → vi m a j = vi M a j) : ClothV m C p := ⟨by rw [e _ _ (by omega)]; exact h.len , by rw [e _ _ (by omega)]; exact h.sl , by rw [e _ _ (by omega)]; exact h.cols , by rw [e _ _ (by omega)]; exact h.kinds , by rw [e _ _ (by omega)]; exact h.ms , by rw [e _ _ (by omega)]; exact h.nn , by rw [e _ _ (by omega)]; exact h.rate , by rw [e _ _ (by omega)]; exact h.h0 , by rw [e _ _ (by omega)]; exact h.h1 , fun r hr => by rw [e _ _ (by omega)]; exact h.sm r hr, fun r hr => by rw [e _ _ (by omega)]; exact h.col r hr, fun r hr => by rw [e _ _ (by omega)]; exact h.tk r hr, fun r hr i => by rw [e _ _ (by omega)]; exact h.nx r hr i, fun r hr => by rw [e _ _ (by omega)]; exact h.par r hr, fun m hm => by rw [e _ _ (by omega)]; exact h.mk m hm, fun m hm => by rw [e _ _ (by omega)]; exact h.ml m hm, fun m i hm hi => by rw [e _ _ (by omega)]; exact h.mr m i hm hi, fun i hi => by rw [e _ _ (by omega)]; exact h.ns i hi, fun i hi => by rw [e _ _ (by omega)]; exact h.nf i hi, fun i hi => by rw [e _ _ (by omega)]; exact h.nt i hi⟩
theorem m_names (h : MB M X C n tp) (N : NmR M C nm) {w : List Nat} {s k : Nat} (hl : nm.length < 14) (hw : wOK w) (hs : s < 3) (hk : k < 8) : ∃ M', f_X10_names [.ref X, .long (cd 32 w), .int (n32 s), .int (n32 k)] M = some (none, M') ∧ LF M M' X C ∧ (∀ a j, ¬ (((a = C + 20 ∨ a = C + 21) ∧ j = nm.length) ∨ (a = C ∧ j = 7)) → vi M' a j = vi M a j) ∧ (∀ a j, a ≠ C + 19 → vl M' a j = vl M a j) ∧ NmR M' C (nm ++ [(w, s, k)]) := by
  have d := h.d
  obtain ⟨M', hM'⟩ : ∃ M', M' = pI (pI (pI (pL M (C + 19) nm.length (cd 32 w)) (C + 20) nm.length (n32 s)) (C + 21) nm.length (n32 k)) C 7 (n32 (nm.length + 1)) := ⟨_, rfl⟩
  have kv : ∀ a j, ¬ (((a = C + 20 ∨ a = C + 21) ∧ j = nm.length) ∨ (a = C ∧ j = 7)) → vi M' a j = vi M a j := fun a j hn => by
    rw [hM', vi_pI, if_neg (by omega), vi_pI, if_neg (by omega), vi_pI, if_neg (by omega), vi_pL]
  have kl : ∀ a j, vl M' a j = if a = C + 19 ∧ j = nm.length then cd 32 w else vl M a j := fun a j => by
    rw [hM']
    show vl (pL M (C + 19) nm.length (cd 32 w)) a j = _
    rw [vl_pL]
  refine ⟨M', ?_, ?_, kv, fun a j ha => by rw [kl, if_neg (fun z => ha z.1)], ?_⟩
  · have n1 : vi (pL M (C + 19) nm.length (cd 32 w)) C 7 = n32 nm.length := N.nn
    have n2 : vi (pI (pL M (C + 19) nm.length (cd 32 w)) (C + 20) nm.length (n32 s)) C 7 = n32 nm.length := by rw [vi_ne (by omega)]; exact n1
    have n3 : vi (pI (pI (pL M (C + 19) nm.length (cd 32 w)) (C + 20) nm.length (n32 s)) (C + 21) nm.length (n32 k)) C 7 = n32 nm.length := by rw [vi_ne (by omega)]; exact n2
    apply h_eq
    delta f_X10_names b_X10_names
    simp (disch := omega) only [hR_d, hT_d, hI_t, hI_f, hVI_s, hVL_s, hVR_s, hVT_s, hVV_s, hO_s, hB_0, hB_1, hB_2, hB_r, hU_0, hU_1, hU_2, hU_r, hX_r, hL_0, hL_1, hL_2, hL_r, hC_s, h_k0, h_k1, h_k2, h_k3, h_k4, h_k5, h_k6, h_k7, h_k8, h_k9, h_k10, h_k11, h_k12, h_k14, h_k16, h_k18, h_k20, h_k23, h_k24, h_k25, h_k32, h_k44, h_k48, h_k50, h_k54, h_k57, h_k58, h_k59, h_k60, h_k63, h_k97, h_k100, h_k122, h_k177, h_k255, h_k400, h_k450, h_k625, h_k649, h_k708, h_k800, h_k900, h_k2500, h_k22500, h_k45000, h_kn1, h_kn2, h_kJ, h_kU, h_eI, h_eL, h_eR, h_eT, h_b1, h_eZ, h_not, h_b2, h_b0, h_b0L, h_gI, h_gL, h_gN, h_gR, h_aI, h_aL, h_aR, h_aLen, h_tern, h_and, h_or, h_vN, h_vI, h_vJ, h_vA, h_cFv, h_cFs, h_toI, h_toL, h_toV, h_nO, h_nA, g_skip, g_brk, g_cnt, g_retV, g_seq, g_if, g_setI, g_setR, g_setL, g_inc, g_putI, g_putZ, g_putL, g_putR, g_upI, g_AI, g_AL, g_AR, g_UA, g_exp, g_retI, g_retL, g_retZ, g_scope, g_unBrk, g_sup, h_fn, argE_n, argE_i, argE_r, argE_l, argE_a, sto_0, sto_s, sto_n0, sto_ns, isL_i, isL_r, isL_n, isL_a, isL_l, isL_0, rcv_r, rcv_a, List.getElem?_cons_zero, List.getElem?_cons_succ, List.getElem?_nil, List.set_cons_zero, List.set_cons_succ, List.take_succ_cons, List.take_zero, List.take_nil, List.length_cons, List.length_nil, List.nil_append, List.cons_append, Nat.reduceAdd, Nat.reduceSub, Nat.reduceLT, Nat.reduceEqDiff, Nat.reduceLeDiff, Nat.zero_add, Nat.lt_irrefl, Nat.succ_sub_one, and_true, true_and, and_false, false_and, not_false_eq_true, not_true_eq_false, Bool.false_eq_true, Bool.not_true, Bool.not_false, Bool.not_eq_true', Bool.true_eq_false, decide_true, decide_false, decide_eq_true_eq, decide_eq_false_iff_not, Option.some.injEq, and_self, Nat.add_one_sub_one, Nat.lt_add_one, Nat.zero_lt_succ, Value.int.injEq, Value.ref.injEq, Value.long.injEq, exists_eq_left', exists_eq_left, Sum.inl.injEq, Sum.inr.injEq, i2z_b2i, h_vS, h_kN, n32_add, n32_mul, n32_inc, n_iEq, n_iNe, n_iLt, n_iLe, n_iGt, n_iGe, n_zEq, n_zLt, n_zLe, n_zGt, n_zGe, n_inb, n32_clamp, tg_pI, tg_pL, tg_pR, vr_pI, vr_pL, vl_pI, vl_pR, vi_pL, vi_pR, mN_pI, mN_pL, mN_pR, mU_pI, mU_pL, mU_pR, h.T.t, h.r4, h.D.t, h.D.r27, h.D.t19, N.nn, h.D.r28, h.D.t20, h.D.r29, h.D.t21, n1, n2, n3, nar, Nat.reduceEqDiff, if_false, hl, ← hM']
  · refine ⟨?_, fun j hj => kv _ _ (by omega)⟩
    rw [hM']
    exact ((((Fr.refl (mS X C) M).pL _ _ (Or.inr ⟨by omega, by omega⟩)).pI _ _ (Or.inr ⟨by omega, by omega⟩)).pI _ _ (Or.inr ⟨by omega, by omega⟩)).pI _ _ (Or.inr ⟨by omega, by omega⟩)
  · refine ⟨by rw [hM', vi_self]; simp, by simp; omega, fun i hi => ?_, fun i hi => ?_⟩
    · have a2 : vi M' (C + 20) i = if i = nm.length then n32 s else vi M (C + 20) i := by
        rw [hM', vi_ne (by omega), vi_ne (by omega), vi_pI, vi_pL]; simp
      have a3 : vi M' (C + 21) i = if i = nm.length then n32 k else vi M (C + 21) i := by
        rw [hM', vi_ne (by omega), vi_pI, vi_ne (by omega), vi_pL]; simp
      rw [kl, a2, a3]
      unfold nmW nmS nmK
      by_cases ei : i = nm.length
      · subst ei
        rw [nm_end, if_pos ⟨rfl, rfl⟩, if_pos rfl, if_pos rfl]
        exact ⟨rfl, rfl, rfl⟩
      · have hi : i < nm.length := by simp at hi; omega
        rw [nm_app nm _ hi, if_neg (fun z => ei z.2), if_neg ei, if_neg ei]
        exact N.nw i hi
    · unfold nmW nmS nmK
      by_cases ei : i = nm.length
      · subst ei
        rw [nm_end]
        exact ⟨hw, hs, hk⟩
      · have hi : i < nm.length := by simp at hi; omega
        rw [nm_app nm _ hi]
        exact N.ok i hi
theorem r_readColour (h : MB M X C n tp) (s : MS M X tp n (.inr q)) (Q : MQd M C p lo nm fl) (K : RdOK p lo nm fl) (k1 : tkK tp n q = 1) : ∃ M', f_X10_readColour [.ref X] M = some (none, M') ∧ MPo M M' X C n tp (pColour tp n (p, lo, nm, fl) q) := by
  have d := h.d
  have cs := K.O.cols
  have kk := K.O.kinds
  have mm := K.O.ms
  have len := K.len
  obtain ⟨M1, e1, f1, s1⟩ := m_beg h s (fun q' hq => by cases hq; omega) (a := pCs p) (b := 2) (by omega) (by decide)
  have h1 := f1.mb h
  have Q1 := Q.xf h f1
  obtain ⟨x, M2, e2, f2, s2, r2⟩ := m_fresh h1 s1 Q1.N
  have h2 := f2.mb h1
  obtain ⟨v3, M3, e3, f3, s3, r3, -⟩ := m_rPt h2 s2 (i := 25) (j := 5) (a := 0) (b := 9) rfl (by decide) (by decide) (by decide)
  have h3 := f3.mb h2
  obtain ⟨v4, M4, e4, f4, s4, r4, -⟩ := m_rPt h3 s3 (i := 26) (j := 6) (a := 0) (b := 9) rfl (by decide) (by decide) (by decide)
  have h4 := f4.mb h3
  have f14 := ((f1.trans f2).trans f3).trans f4
  have Q4 := Q.xf h f14
  obtain ⟨z, z1, z2, z3⟩ := s4.o
  by_cases t : 2 ≤ pCs p
  · rw [if_pos (show pCs p = 2 by omega)] at s1 s2 s3 s4 z3
    refine ⟨M4, ?_, MPo.f (e := (5, tkP tp n q)) (by unfold pColour; exact if_pos t) (f14.lf C) s4⟩
    have z5 : z = 5 := of_decide_eq_true z3
    apply h_eq
    delta f_X10_readColour b_X10_readColour
    simp (disch := omega) only [hR_d, hT_d, hI_t, hI_f, hVI_s, hVL_s, hVR_s, hVT_s, hVV_s, hO_s, hB_0, hB_1, hB_2, hB_r, hU_0, hU_1, hU_2, hU_r, hX_r, hL_0, hL_1, hL_2, hL_r, hC_s, h_k0, h_k1, h_k2, h_k3, h_k4, h_k5, h_k6, h_k7, h_k8, h_k9, h_k10, h_k11, h_k12, h_k14, h_k16, h_k18, h_k20, h_k23, h_k24, h_k25, h_k32, h_k44, h_k48, h_k50, h_k54, h_k57, h_k58, h_k59, h_k60, h_k63, h_k97, h_k100, h_k122, h_k177, h_k255, h_k400, h_k450, h_k625, h_k649, h_k708, h_k800, h_k900, h_k2500, h_k22500, h_k45000, h_kn1, h_kn2, h_kJ, h_kU, h_eI, h_eL, h_eR, h_eT, h_b1, h_eZ, h_not, h_b2, h_b0, h_b0L, h_gI, h_gL, h_gN, h_gR, h_aI, h_aL, h_aR, h_aLen, h_tern, h_and, h_or, h_vN, h_vI, h_vJ, h_vA, h_cFv, h_cFs, h_toI, h_toL, h_toV, h_nO, h_nA, g_skip, g_brk, g_cnt, g_retV, g_seq, g_if, g_setI, g_setR, g_setL, g_inc, g_putI, g_putZ, g_putL, g_putR, g_upI, g_AI, g_AL, g_AR, g_UA, g_exp, g_retI, g_retL, g_retZ, g_scope, g_unBrk, g_sup, h_fn, argE_n, argE_i, argE_r, argE_l, argE_a, sto_0, sto_s, sto_n0, sto_ns, isL_i, isL_r, isL_n, isL_a, isL_l, isL_0, rcv_r, rcv_a, List.getElem?_cons_zero, List.getElem?_cons_succ, List.getElem?_nil, List.set_cons_zero, List.set_cons_succ, List.take_succ_cons, List.take_zero, List.take_nil, List.length_cons, List.length_nil, List.nil_append, List.cons_append, Nat.reduceAdd, Nat.reduceSub, Nat.reduceLT, Nat.reduceEqDiff, Nat.reduceLeDiff, Nat.zero_add, Nat.lt_irrefl, Nat.succ_sub_one, and_true, true_and, and_false, false_and, not_false_eq_true, not_true_eq_false, Bool.false_eq_true, Bool.not_true, Bool.not_false, Bool.not_eq_true', Bool.true_eq_false, decide_true, decide_false, decide_eq_true_eq, decide_eq_false_iff_not, Option.some.injEq, and_self, Nat.add_one_sub_one, Nat.lt_add_one, Nat.zero_lt_succ, Value.int.injEq, Value.ref.injEq, Value.long.injEq, exists_eq_left', exists_eq_left, Sum.inl.injEq, Sum.inr.injEq, i2z_b2i, h_vS, h_kN, n32_add, n32_mul, n32_inc, n_iEq, n_iNe, n_iLt, n_iLe, n_iGt, n_iGe, n_zEq, n_zLt, n_zLe, n_zGt, n_zGe, n_inb, n32_clamp, tg_pI, tg_pL, tg_pR, vr_pI, vr_pL, vl_pI, vl_pR, vi_pL, vi_pR, mN_pI, mN_pL, mN_pR, mU_pI, mU_pL, mU_pR, h.T.t, h.r4, h.D.t, Q.V.cols, h_of e1, h1.T.t, h_of e2, h2.T.t, h_of e3, h3.T.t, h_of e4, h4.T.t, z1, z5]
  · rw [if_neg (show ¬ pCs p = 2 by omega), show gos tp n (.inr q) = .inr (tkE tp n q) from rfl, pB_r] at s2 s3 s4 r3 r4 z3
    rw [if_neg (show ¬ pCs p = 2 by omega)] at r2
    have over : isLf (sN (pB (sN (pB (pF tp n nm (tkE tp n q)) (pPt tp n 5 0 9))) (pPt tp n 6 0 9))) = true → f_X10_readColour [.ref X] M = some (none, M4) := fun w => by
      rw [w] at z3
      have z5 : z = 5 := of_decide_eq_true z3
      apply h_eq
      delta f_X10_readColour b_X10_readColour
      simp (disch := omega) only [hR_d, hT_d, hI_t, hI_f, hVI_s, hVL_s, hVR_s, hVT_s, hVV_s, hO_s, hB_0, hB_1, hB_2, hB_r, hU_0, hU_1, hU_2, hU_r, hX_r, hL_0, hL_1, hL_2, hL_r, hC_s, h_k0, h_k1, h_k2, h_k3, h_k4, h_k5, h_k6, h_k7, h_k8, h_k9, h_k10, h_k11, h_k12, h_k14, h_k16, h_k18, h_k20, h_k23, h_k24, h_k25, h_k32, h_k44, h_k48, h_k50, h_k54, h_k57, h_k58, h_k59, h_k60, h_k63, h_k97, h_k100, h_k122, h_k177, h_k255, h_k400, h_k450, h_k625, h_k649, h_k708, h_k800, h_k900, h_k2500, h_k22500, h_k45000, h_kn1, h_kn2, h_kJ, h_kU, h_eI, h_eL, h_eR, h_eT, h_b1, h_eZ, h_not, h_b2, h_b0, h_b0L, h_gI, h_gL, h_gN, h_gR, h_aI, h_aL, h_aR, h_aLen, h_tern, h_and, h_or, h_vN, h_vI, h_vJ, h_vA, h_cFv, h_cFs, h_toI, h_toL, h_toV, h_nO, h_nA, g_skip, g_brk, g_cnt, g_retV, g_seq, g_if, g_setI, g_setR, g_setL, g_inc, g_putI, g_putZ, g_putL, g_putR, g_upI, g_AI, g_AL, g_AR, g_UA, g_exp, g_retI, g_retL, g_retZ, g_scope, g_unBrk, g_sup, h_fn, argE_n, argE_i, argE_r, argE_l, argE_a, sto_0, sto_s, sto_n0, sto_ns, isL_i, isL_r, isL_n, isL_a, isL_l, isL_0, rcv_r, rcv_a, List.getElem?_cons_zero, List.getElem?_cons_succ, List.getElem?_nil, List.set_cons_zero, List.set_cons_succ, List.take_succ_cons, List.take_zero, List.take_nil, List.length_cons, List.length_nil, List.nil_append, List.cons_append, Nat.reduceAdd, Nat.reduceSub, Nat.reduceLT, Nat.reduceEqDiff, Nat.reduceLeDiff, Nat.zero_add, Nat.lt_irrefl, Nat.succ_sub_one, and_true, true_and, and_false, false_and, not_false_eq_true, not_true_eq_false, Bool.false_eq_true, Bool.not_true, Bool.not_false, Bool.not_eq_true', Bool.true_eq_false, decide_true, decide_false, decide_eq_true_eq, decide_eq_false_iff_not, Option.some.injEq, and_self, Nat.add_one_sub_one, Nat.lt_add_one, Nat.zero_lt_succ, Value.int.injEq, Value.ref.injEq, Value.long.injEq, exists_eq_left', exists_eq_left, Sum.inl.injEq, Sum.inr.injEq, i2z_b2i, h_vS, h_kN, n32_add, n32_mul, n32_inc, n_iEq, n_iNe, n_iLt, n_iLe, n_iGt, n_iGe, n_zEq, n_zLt, n_zLe, n_zGt, n_zGe, n_inb, n32_clamp, tg_pI, tg_pL, tg_pR, vr_pI, vr_pL, vl_pI, vl_pR, vi_pL, vi_pR, mN_pI, mN_pL, mN_pR, mU_pI, mU_pL, mU_pR, h.T.t, h.r4, h.D.t, Q.V.cols, h_of e1, h1.T.t, h_of e2, h2.T.t, h_of e3, h3.T.t, h_of e4, h4.T.t, z1, z5]
    cases y2 : pF tp n nm (tkE tp n q) with
    | inl e =>
      rw [y2] at s4 over
      exact ⟨M4, over rfl, MPo.f (by unfold pColour; rw [if_neg t]; simp only [y2, pB_l]) (f14.lf C) s4⟩
    | inr q2 =>
    cases y3 : pPt tp n 5 0 9 q2 with
    | inl e =>
      rw [y2, pB_r, y3] at s4 over
      exact ⟨M4, over rfl, MPo.f (by unfold pColour; rw [if_neg t]; simp only [y2, y3, pB_l, pB_r]) (f14.lf C) s4⟩
    | inr x3 =>
    cases y4 : pPt tp n 6 0 9 x3.2 with
    | inl e =>
      rw [y2, pB_r, y3, show sN (.inr x3) = .inr x3.2 from rfl, pB_r, y4] at s4 over
      exact ⟨M4, over rfl, MPo.f (by unfold pColour; rw [if_neg t]; simp only [y2, y3, y4, pB_l, pB_r]) (f14.lf C) s4⟩
    | inr x4 =>
      rw [y2, pB_r, y3, show sN (.inr x3) = .inr x3.2 from rfl, pB_r, y4] at s4 z3
      rw [y2, pB_r, y3] at r4
      rw [y2, pB_r] at r3
      obtain ⟨rfl, -, b3⟩ := r3 x3 y3
      obtain ⟨rfl, -, b4⟩ := r4 x4 y4
      obtain ⟨rfl, kx⟩ := r2 (tkE tp n q) rfl ⟨q2, y2⟩
      have le := tkE_le (tp := tp) s.1
      have z5 : ¬ z = 5 := of_decide_eq_false z3
      obtain ⟨M5, e5, f5, k5, l5, N5⟩ := m_names h4 Q4.N (w := tkW tp n (tkE tp n q)) (s := 0) (k := pCs p) (by omega) (tkW_ok le.2 kx) (by decide) (by omega)
      have h5 := f5.mb h4
      obtain ⟨M6, hM6⟩ : ∃ M6, M6 = pI (pI (pI M5 (C + 2) (pCs p) (n32 x3.1)) (C + 2) (2 + pCs p) (n32 x4.1)) C 2 (n32 (pCs p + 1)) := ⟨_, rfl⟩
      have k6 : ∀ a j, ¬ ((a = C + 2 ∧ (j = pCs p ∨ j = 2 + pCs p)) ∨ (a = C ∧ j = 2)) → vi M6 a j = vi M5 a j := fun a j hn => by rw [hM6, vi_pI, if_neg (by omega), vi_pI, if_neg (by omega), vi_pI, if_neg (by omega)]
      have l6 : vl M6 = vl M5 := by rw [hM6]; rfl
      have f6 : LF M5 M6 X C := by
        refine ⟨?_, fun j hj => k6 _ _ (by omega)⟩
        rw [hM6]
        exact (((Fr.refl (mS X C) M5).pI _ _ (Or.inr ⟨by omega, by omega⟩)).pI _ _ (Or.inr ⟨by omega, by omega⟩)).pI _ _ (Or.inr ⟨by omega, by omega⟩)
      have c5 : vi M5 C 2 = n32 (pCs p) := by rw [k5 _ _ (by omega)]; exact Q4.V.cols
      have s6 : MS M6 X tp n (.inr x4.2) := s4.mv (fun j => by rw [k6 _ _ (by omega), k5 _ _ (by omega)]) (by rw [l6, l5 _ _ (by omega)])
      refine ⟨M6, ?_, MPo.s (rd := (u2 p 4 0 (pCs p + 1), loS lo (pCs p) x3.1 x4.1, nm ++ [(tkW tp n (tkE tp n q), 0, pCs p)], fl)) (by unfold pColour; rw [if_neg t]; simp only [y2, y3, y4, pB_r]) (((f14.lf C).trans f5).trans f6) s6 ⟨?_, ?_, ?_, fun u v hu hv => ?_, fun u i hu hi => ?_, fun u hu => ?_, fun u hu => ?_, fun r hr => ?_, fun r hr => ?_, fun r hr hk => ?_⟩⟩
      · have c5a : ∀ y, vi (pI M5 (C + 2) (pCs p) y) C 2 = n32 (pCs p) := fun y => by rw [vi_ne (by omega)]; exact c5
        have c5b : ∀ y w, vi (pI (pI M5 (C + 2) (pCs p) y) (C + 2) (2 + pCs p) w) C 2 = n32 (pCs p) := fun y w => by rw [vi_ne (by omega)]; exact c5a y
        apply h_eq
        delta f_X10_readColour b_X10_readColour
        simp (disch := omega) only [hR_d, hT_d, hI_t, hI_f, hVI_s, hVL_s, hVR_s, hVT_s, hVV_s, hO_s, hB_0, hB_1, hB_2, hB_r, hU_0, hU_1, hU_2, hU_r, hX_r, hL_0, hL_1, hL_2, hL_r, hC_s, h_k0, h_k1, h_k2, h_k3, h_k4, h_k5, h_k6, h_k7, h_k8, h_k9, h_k10, h_k11, h_k12, h_k14, h_k16, h_k18, h_k20, h_k23, h_k24, h_k25, h_k32, h_k44, h_k48, h_k50, h_k54, h_k57, h_k58, h_k59, h_k60, h_k63, h_k97, h_k100, h_k122, h_k177, h_k255, h_k400, h_k450, h_k625, h_k649, h_k708, h_k800, h_k900, h_k2500, h_k22500, h_k45000, h_kn1, h_kn2, h_kJ, h_kU, h_eI, h_eL, h_eR, h_eT, h_b1, h_eZ, h_not, h_b2, h_b0, h_b0L, h_gI, h_gL, h_gN, h_gR, h_aI, h_aL, h_aR, h_aLen, h_tern, h_and, h_or, h_vN, h_vI, h_vJ, h_vA, h_cFv, h_cFs, h_toI, h_toL, h_toV, h_nO, h_nA, g_skip, g_brk, g_cnt, g_retV, g_seq, g_if, g_setI, g_setR, g_setL, g_inc, g_putI, g_putZ, g_putL, g_putR, g_upI, g_AI, g_AL, g_AR, g_UA, g_exp, g_retI, g_retL, g_retZ, g_scope, g_unBrk, g_sup, h_fn, argE_n, argE_i, argE_r, argE_l, argE_a, sto_0, sto_s, sto_n0, sto_ns, isL_i, isL_r, isL_n, isL_a, isL_l, isL_0, rcv_r, rcv_a, List.getElem?_cons_zero, List.getElem?_cons_succ, List.getElem?_nil, List.set_cons_zero, List.set_cons_succ, List.take_succ_cons, List.take_zero, List.take_nil, List.length_cons, List.length_nil, List.nil_append, List.cons_append, Nat.reduceAdd, Nat.reduceSub, Nat.reduceLT, Nat.reduceEqDiff, Nat.reduceLeDiff, Nat.zero_add, Nat.lt_irrefl, Nat.succ_sub_one, and_true, true_and, and_false, false_and, not_false_eq_true, not_true_eq_false, Bool.false_eq_true, Bool.not_true, Bool.not_false, Bool.not_eq_true', Bool.true_eq_false, decide_true, decide_false, decide_eq_true_eq, decide_eq_false_iff_not, Option.some.injEq, and_self, Nat.add_one_sub_one, Nat.lt_add_one, Nat.zero_lt_succ, Value.int.injEq, Value.ref.injEq, Value.long.injEq, exists_eq_left', exists_eq_left, Sum.inl.injEq, Sum.inr.injEq, i2z_b2i, h_vS, h_kN, n32_add, n32_mul, n32_inc, n_iEq, n_iNe, n_iLt, n_iLe, n_iGt, n_iGe, n_zEq, n_zLt, n_zLe, n_zGt, n_zGe, n_inb, n32_clamp, tg_pI, tg_pL, tg_pR, vr_pI, vr_pL, vl_pI, vl_pR, vi_pL, vi_pR, mN_pI, mN_pL, mN_pR, mU_pI, mU_pL, mU_pR, h.T.t, h.r4, h.D.t, Q.V.cols, h_of e1, h1.T.t, h_of e2, h2.T.t, h_of e3, h3.T.t, h_of e4, h4.T.t, z1, z5, h4.r4, h4.D.t, Q4.V.cols, h_of e5, h5.T.t, h5.r4, h5.D.t, h5.D.r10, h5.D.t2, c5, c5a, c5b, nar, Nat.reduceEqDiff, if_false, ← hM6]
        exact ⟨by omega, by omega⟩
      · have V5 : ClothV M5 C p := Q4.V.kp (fun a j hn => k5 a j (by omega))
        have V5' : ClothV (pI (pI M5 (C + 2) (pCs p) (n32 x3.1)) (C + 2) (2 + pCs p) (n32 x4.1)) C p := V5.kp (fun a j hn => by rw [vi_pI, if_neg (by omega), vi_pI, if_neg (by omega)])
        rw [hM6]
        exact V5'.u_cs K.O (by omega) (fun a j hn => by rw [vi_pI, if_neg hn]) (vi_self _ _ _ _)
      · exact ⟨by rw [k6 _ _ (by omega)]; exact N5.nn, N5.n14, fun i hi => by rw [l6, k6 _ _ (by omega), k6 _ _ (by omega)]; exact N5.nw i hi, N5.ok⟩
      · rw [k6 _ _ (by omega), k5 _ _ (by omega)]; exact Q4.told
      · show _ = n32 (u2 (u2 (lS lo) 0 (pCs p) x3.1) 1 (pCs p) x4.1 u v)
        rw [hM6, vi_ne (by omega), vi_pI, vi_pI, k5 _ _ (by omega), Q4.st u v hu hv]
        unfold u2
        have hu2 : u = 0 ∨ u = 1 := by omega
        rcases hu2 with rfl | rfl
        · by_cases ev : v = pCs p
          · rw [if_neg (by omega), if_pos ⟨rfl, by omega⟩, if_neg (by omega), if_pos ⟨rfl, ev⟩]
          · rw [if_neg (by omega), if_neg (by omega), if_neg (by omega), if_neg (by omega)]
        · by_cases ev : v = pCs p
          · rw [if_pos ⟨rfl, by omega⟩, if_pos ⟨rfl, ev⟩]
          · rw [if_neg (by omega), if_neg (by omega), if_neg (by omega), if_neg (by omega)]
      · rw [k6 _ _ (by omega), k5 _ _ (by omega)]; exact Q4.wv u i hu hi
      · rw [k6 _ _ (by omega), k5 _ _ (by omega)]; exact Q4.wm u hu
      · rw [k6 _ _ (by omega), k5 _ _ (by omega)]; exact Q4.iw u hu
      · rw [k6 _ _ (by omega), k5 _ _ (by omega)]; exact Q4.inx r hr
      · rw [k6 _ _ (by omega), k5 _ _ (by omega)]; exact Q4.ian r hr
      · rw [k6 _ _ (by omega), k5 _ _ (by omega)]; exact Q4.z11 r hr hk
theorem r_readRow (h : MB M X C n tp) (s : MS M X tp n (.inr q)) (Q : MQd M C p lo nm fl) (K : RdOK p lo nm fl) (k1 : tkK tp n q = 1) : ∃ M', f_X10_readRow [.ref X] M = some (none, M') ∧ MPo M M' X C n tp (pRow tp n (p, lo, nm, fl) q) := by
  have d := h.d
  have cs := K.O.cols
  have kk := K.O.kinds
  have mm := K.O.ms
  have len := K.len
  obtain ⟨M1, e1, f1, s1⟩ := m_beg h s (fun q' hq => by cases hq; omega) (a := pK p) (b := 8) (by omega) (by decide)
  have h1 := f1.mb h
  have Q1 := Q.xf h f1
  obtain ⟨x, M2, e2, f2, s2, r2⟩ := m_fresh h1 s1 Q1.N
  have h2 := f2.mb h1
  obtain ⟨M3, e3, f3, s3⟩ := m_needs h2 s2 (i := 35) (j := 15) rfl (by decide)
  have h3 := f3.mb h2
  have Q3 := Q.xf h ((f1.trans f2).trans f3)
  obtain ⟨c, M4, e4, f4, c8, s4, r4⟩ := m_known h3 s3 Q3.N (z := 0) (by decide)
  have h4 := f4.mb h3
  have ok4 : ok5 tp n (knS tp n nm 0 (pB (pB (if pK p = 8 then flw tp n 5 (.inr q) else gos tp n (.inr q)) (pF tp n nm)) (pW tp n 15))) := fun q' hq => by
    unfold knS at hq
    cases y : pB (pB (if pK p = 8 then flw tp n 5 (.inr q) else gos tp n (.inr q)) (pF tp n nm)) (pW tp n 15) with
    | inl e => rw [y] at hq; cases hq
    | inr q3 =>
      rw [y, pB_r] at hq
      cases y2 : pKn tp n nm 0 q3 with
      | inl e => rw [y2] at hq; cases hq
      | inr k => rw [y2] at hq; cases hq; have := pKn_1 y2; omega
  obtain ⟨M5, e5, f5, s5⟩ := m_gos h4 s4 ok4
  have h5 := f5.mb h4
  obtain ⟨v6, M6, e6, f6, s6, r6, -⟩ := m_rWh h5 s5 (a := 0) (b := 3) (by decide) (by decide)
  have h6 := f6.mb h5
  obtain ⟨M7, e7, f7, s7⟩ := m_eatsW h6 s6 (i := 29) (j := 9) rfl (by decide)
  have h7 := f7.mb h6
  have f17 := ((((((f1.trans f2).trans f3).trans f4).trans f5).trans f6).trans f7)
  have Q7 := Q.xf h f17
  obtain ⟨z, z1, z2, z3⟩ := s7.o
  have over : z = 5 → f_X10_readRow [.ref X] M = some (none, M7) := fun z5 => by
    apply h_eq
    delta f_X10_readRow b_X10_readRow
    simp (disch := omega) only [hR_d, hT_d, hI_t, hI_f, hVI_s, hVL_s, hVR_s, hVT_s, hVV_s, hO_s, hB_0, hB_1, hB_2, hB_r, hU_0, hU_1, hU_2, hU_r, hX_r, hL_0, hL_1, hL_2, hL_r, hC_s, h_k0, h_k1, h_k2, h_k3, h_k4, h_k5, h_k6, h_k7, h_k8, h_k9, h_k10, h_k11, h_k12, h_k14, h_k16, h_k18, h_k20, h_k23, h_k24, h_k25, h_k32, h_k44, h_k48, h_k50, h_k54, h_k57, h_k58, h_k59, h_k60, h_k63, h_k97, h_k100, h_k122, h_k177, h_k255, h_k400, h_k450, h_k625, h_k649, h_k708, h_k800, h_k900, h_k2500, h_k22500, h_k45000, h_kn1, h_kn2, h_kJ, h_kU, h_eI, h_eL, h_eR, h_eT, h_b1, h_eZ, h_not, h_b2, h_b0, h_b0L, h_gI, h_gL, h_gN, h_gR, h_aI, h_aL, h_aR, h_aLen, h_tern, h_and, h_or, h_vN, h_vI, h_vJ, h_vA, h_cFv, h_cFs, h_toI, h_toL, h_toV, h_nO, h_nA, g_skip, g_brk, g_cnt, g_retV, g_seq, g_if, g_setI, g_setR, g_setL, g_inc, g_putI, g_putZ, g_putL, g_putR, g_upI, g_AI, g_AL, g_AR, g_UA, g_exp, g_retI, g_retL, g_retZ, g_scope, g_unBrk, g_sup, h_fn, argE_n, argE_i, argE_r, argE_l, argE_a, sto_0, sto_s, sto_n0, sto_ns, isL_i, isL_r, isL_n, isL_a, isL_l, isL_0, rcv_r, rcv_a, List.getElem?_cons_zero, List.getElem?_cons_succ, List.getElem?_nil, List.set_cons_zero, List.set_cons_succ, List.take_succ_cons, List.take_zero, List.take_nil, List.length_cons, List.length_nil, List.nil_append, List.cons_append, Nat.reduceAdd, Nat.reduceSub, Nat.reduceLT, Nat.reduceEqDiff, Nat.reduceLeDiff, Nat.zero_add, Nat.lt_irrefl, Nat.succ_sub_one, and_true, true_and, and_false, false_and, not_false_eq_true, not_true_eq_false, Bool.false_eq_true, Bool.not_true, Bool.not_false, Bool.not_eq_true', Bool.true_eq_false, decide_true, decide_false, decide_eq_true_eq, decide_eq_false_iff_not, Option.some.injEq, and_self, Nat.add_one_sub_one, Nat.lt_add_one, Nat.zero_lt_succ, Value.int.injEq, Value.ref.injEq, Value.long.injEq, exists_eq_left', exists_eq_left, Sum.inl.injEq, Sum.inr.injEq, i2z_b2i, h_vS, h_kN, n32_add, n32_mul, n32_inc, n_iEq, n_iNe, n_iLt, n_iLe, n_iGt, n_iGe, n_zEq, n_zLt, n_zLe, n_zGt, n_zGe, n_inb, n32_clamp, tg_pI, tg_pL, tg_pR, vr_pI, vr_pL, vl_pI, vl_pR, vi_pL, vi_pR, mN_pI, mN_pL, mN_pR, mU_pI, mU_pL, mU_pR, h.T.t, h.r4, h.D.t, Q.V.kinds, h_of e1, h1.T.t, h_of e2, h2.T.t, h_of e3, h3.T.t, h_of e4, h4.T.t, h_of e5, h5.T.t, h_of e6, h6.T.t, h_of e7, h7.T.t, z1, z5]
  by_cases t : 8 ≤ pK p
  · rw [if_pos (show pK p = 8 by omega)] at s7 z3
    exact ⟨M7, over (of_decide_eq_true z3), MPo.f (e := (5, tkP tp n q)) (by unfold pRow; exact if_pos t) (f17.lf C) s7⟩
  · rw [if_neg (show ¬ pK p = 8 by omega), show gos tp n (.inr q) = .inr (tkE tp n q) from rfl, pB_r] at s6 s7 z3 r6 r4 e7
    rw [if_neg (show ¬ pK p = 8 by omega)] at r2
    cases y2 : pF tp n nm (tkE tp n q) with
    | inl e =>
      rw [y2] at s7 z3
      exact ⟨M7, over (of_decide_eq_true z3), MPo.f (by unfold pRow; rw [if_neg t]; simp only [y2, pB_l]) (f17.lf C) s7⟩
    | inr q2 =>
    cases y3 : pW tp n 15 q2 with
    | inl e =>
      rw [y2, pB_r, y3] at s7 z3
      exact ⟨M7, over (of_decide_eq_true z3), MPo.f (by unfold pRow; rw [if_neg t]; simp only [y2, y3, pB_l, pB_r]) (f17.lf C) s7⟩
    | inr q3 =>
    cases y4 : pKn tp n nm 0 q3 with
    | inl e =>
      have kn : knS tp n nm 0 (.inr q3) = .inl e := by unfold knS; rw [pB_r, y4]; rfl
      rw [y2, pB_r, y3, kn] at s7 z3
      exact ⟨M7, over (of_decide_eq_true z3), MPo.f (by unfold pRow; rw [if_neg t]; simp only [y2, y3, y4, pB_l, pB_r]) (f17.lf C) s7⟩
    | inr cc =>
    have kn : knS tp n nm 0 (.inr q3) = .inr q3 := by unfold knS; rw [pB_r, y4]; rfl
    rw [y2, pB_r, y3] at r4
    have ec := r4 q3 cc rfl y4
    subst ec
    have hc := pKn_col K y4
    cases y6 : pWh tp n 0 3 (tkE tp n q3) with
    | inl e =>
      rw [y2, pB_r, y3, kn, show gos tp n (.inr q3) = .inr (tkE tp n q3) from rfl, pB_r, y6] at s7 z3
      exact ⟨M7, over (of_decide_eq_true z3), MPo.f (by unfold pRow; rw [if_neg t]; simp only [y2, y3, y4, y6, pB_l, pB_r]) (f17.lf C) s7⟩
    | inr x6 =>
      rw [y2, pB_r, y3, kn, show gos tp n (.inr q3) = .inr (tkE tp n q3) from rfl, pB_r, y6] at s7 z3 r6 e7
      rw [show sN (.inr x6) = .inr x6.2 from rfl] at s7 z3 e7
      obtain ⟨rfl, -, b6⟩ := r6 x6 rfl
      obtain ⟨rfl, kx⟩ := r2 (tkE tp n q) rfl ⟨q2, y2⟩
      have le := tkE_le (tp := tp) s.1
      have s7' : MS M7 X tp n (.inr (if isW tp n x6.2 9 = true then tkE tp n x6.2 else x6.2)) := by
        have : (if isWs tp n (.inr x6.2) 9 = true then gos tp n (.inr x6.2) else .inr x6.2) = (.inr (if isW tp n x6.2 9 = true then tkE tp n x6.2 else x6.2) : Pr Nat) := by
          show (if isW tp n x6.2 9 = true then (.inr (tkE tp n x6.2) : Pr Nat) else .inr x6.2) = _
          by_cases w : isW tp n x6.2 9 = true
          · rw [if_pos w, if_pos w]
          · rw [if_neg w, if_neg w]
        rw [this] at s7; exact s7
      have z5 : ¬ z = 5 := by
        intro z5
        rw [z5] at z1
        have := s7'.2.1.2.1
        have sl := srt_lt (tkK tp n (if isW tp n x6.2 9 = true then tkE tp n x6.2 else x6.2))
        rw [this, n32_inj (by omega) (by decide)] at z1
        omega
      have e7 : f_X10_eatsWord [.ref X, .retAddr 29] M6 = some (some (.int (b2i (isW tp n x6.2 9))), M7) := e7
      obtain ⟨M8, e8, f8, k8, l8, N8⟩ := m_names h7 Q7.N (w := tkW tp n (tkE tp n q)) (s := 1) (k := pK p) (by omega) (tkW_ok le.2 kx) (by decide) (by omega)
      have h8 := f8.mb h7
      obtain ⟨M9, hM9⟩ : ∃ M9, M9 = pI (pI (pI (pI (pI M8 (C + 9) (pK p) (n32 c)) (C + 10) (pK p) (n32 x6.1)) (C + 6) (pK p) (b2i (isW tp n x6.2 9))) (C + 12) (pK p) (n32 (pK p))) C 3 (n32 (pK p + 1)) := ⟨_, rfl⟩
      have k9 : ∀ a j, ¬ ((a = C + 9 ∧ j = pK p) ∨ (a = C + 10 ∧ j = pK p) ∨ (a = C + 12 ∧ j = pK p) ∨ (a = C + 6 ∧ j = pK p) ∨ (a = C ∧ j = 3)) → vi M9 a j = vi M8 a j := fun a j hn => by rw [hM9, vi_pI, if_neg (by omega), vi_pI, if_neg (by omega), vi_pI, if_neg (by omega), vi_pI, if_neg (by omega), vi_pI, if_neg (by omega)]
      have l9 : vl M9 = vl M8 := by rw [hM9]; rfl
      have f9 : LF M8 M9 X C := by
        refine ⟨?_, fun j hj => k9 _ _ (by omega)⟩
        rw [hM9]
        exact (((((Fr.refl (mS X C) M8).pI _ _ (Or.inr ⟨by omega, by omega⟩)).pI _ _ (Or.inr ⟨by omega, by omega⟩)).pI _ _ (Or.inr ⟨by omega, by omega⟩)).pI _ _ (Or.inr ⟨by omega, by omega⟩)).pI _ _ (Or.inr ⟨by omega, by omega⟩)
      have c8' : vi M8 C 3 = n32 (pK p) := by rw [k8 _ _ (by omega)]; exact Q7.V.kinds
      have s9 : MS M9 X tp n (.inr (if isW tp n x6.2 9 = true then tkE tp n x6.2 else x6.2)) := s7'.mv (fun j => by rw [k9 _ _ (by omega), k8 _ _ (by omega)]) (by rw [l9, l8 _ _ (by omega)])
      refine ⟨M9, ?_, MPo.s (rd := (plK p c x6.1 (isW tp n x6.2 9), lo, nm ++ [(tkW tp n (tkE tp n q), 1, pK p)], fl)) (by unfold pRow; rw [if_neg t]; simp only [y2, y3, y4, y6, pB_r]) (((f17.lf C).trans f8).trans f9) s9 ⟨?_, ?_, ?_, fun u v hu hv => ?_, fun u i hu hi => ?_, fun u hu => ?_, fun u hu => ?_, fun r hr => ?_, fun r hr => ?_, fun r hr hk => ?_⟩⟩
      · have a1 : ∀ y, vi (pI M8 (C + 9) (pK p) y) C 3 = n32 (pK p) := fun y => by rw [vi_ne (by omega)]; exact c8'
        have a2 : ∀ y w, vi (pI (pI M8 (C + 9) (pK p) y) (C + 10) (pK p) w) C 3 = n32 (pK p) := fun y w => by rw [vi_ne (by omega)]; exact a1 y
        have a3 : ∀ y w u, vi (pI (pI (pI M8 (C + 9) (pK p) y) (C + 10) (pK p) w) (C + 6) (pK p) u) C 3 = n32 (pK p) := fun y w u => by rw [vi_ne (by omega)]; exact a2 y w
        have a4 : ∀ y w u v, vi (pI (pI (pI (pI M8 (C + 9) (pK p) y) (C + 10) (pK p) w) (C + 6) (pK p) u) (C + 12) (pK p) v) C 3 = n32 (pK p) := fun y w u v => by rw [vi_ne (by omega)]; exact a3 y w u
        apply h_eq
        delta f_X10_readRow b_X10_readRow
        simp (disch := omega) only [hR_d, hT_d, hI_t, hI_f, hVI_s, hVL_s, hVR_s, hVT_s, hVV_s, hO_s, hB_0, hB_1, hB_2, hB_r, hU_0, hU_1, hU_2, hU_r, hX_r, hL_0, hL_1, hL_2, hL_r, hC_s, h_k0, h_k1, h_k2, h_k3, h_k4, h_k5, h_k6, h_k7, h_k8, h_k9, h_k10, h_k11, h_k12, h_k14, h_k16, h_k18, h_k20, h_k23, h_k24, h_k25, h_k32, h_k44, h_k48, h_k50, h_k54, h_k57, h_k58, h_k59, h_k60, h_k63, h_k97, h_k100, h_k122, h_k177, h_k255, h_k400, h_k450, h_k625, h_k649, h_k708, h_k800, h_k900, h_k2500, h_k22500, h_k45000, h_kn1, h_kn2, h_kJ, h_kU, h_eI, h_eL, h_eR, h_eT, h_b1, h_eZ, h_not, h_b2, h_b0, h_b0L, h_gI, h_gL, h_gN, h_gR, h_aI, h_aL, h_aR, h_aLen, h_tern, h_and, h_or, h_vN, h_vI, h_vJ, h_vA, h_cFv, h_cFs, h_toI, h_toL, h_toV, h_nO, h_nA, g_skip, g_brk, g_cnt, g_retV, g_seq, g_if, g_setI, g_setR, g_setL, g_inc, g_putI, g_putZ, g_putL, g_putR, g_upI, g_AI, g_AL, g_AR, g_UA, g_exp, g_retI, g_retL, g_retZ, g_scope, g_unBrk, g_sup, h_fn, argE_n, argE_i, argE_r, argE_l, argE_a, sto_0, sto_s, sto_n0, sto_ns, isL_i, isL_r, isL_n, isL_a, isL_l, isL_0, rcv_r, rcv_a, List.getElem?_cons_zero, List.getElem?_cons_succ, List.getElem?_nil, List.set_cons_zero, List.set_cons_succ, List.take_succ_cons, List.take_zero, List.take_nil, List.length_cons, List.length_nil, List.nil_append, List.cons_append, Nat.reduceAdd, Nat.reduceSub, Nat.reduceLT, Nat.reduceEqDiff, Nat.reduceLeDiff, Nat.zero_add, Nat.lt_irrefl, Nat.succ_sub_one, and_true, true_and, and_false, false_and, not_false_eq_true, not_true_eq_false, Bool.false_eq_true, Bool.not_true, Bool.not_false, Bool.not_eq_true', Bool.true_eq_false, decide_true, decide_false, decide_eq_true_eq, decide_eq_false_iff_not, Option.some.injEq, and_self, Nat.add_one_sub_one, Nat.lt_add_one, Nat.zero_lt_succ, Value.int.injEq, Value.ref.injEq, Value.long.injEq, exists_eq_left', exists_eq_left, Sum.inl.injEq, Sum.inr.injEq, i2z_b2i, h_vS, h_kN, n32_add, n32_mul, n32_inc, n_iEq, n_iNe, n_iLt, n_iLe, n_iGt, n_iGe, n_zEq, n_zLt, n_zLe, n_zGt, n_zGe, n_inb, n32_clamp, tg_pI, tg_pL, tg_pR, vr_pI, vr_pL, vl_pI, vl_pR, vi_pL, vi_pR, mN_pI, mN_pL, mN_pR, mU_pI, mU_pL, mU_pR, h.T.t, h.r4, h.D.t, Q.V.kinds, h_of e1, h1.T.t, h_of e2, h2.T.t, h_of e3, h3.T.t, h_of e4, h4.T.t, h_of e5, h5.T.t, h_of e6, h6.T.t, h_of e7, h7.T.t, z1, z5, h7.r4, h7.D.t, Q7.V.kinds, h_of e8, h8.T.t, h8.r4, h8.D.t, h8.D.r17, h8.D.t9, h8.D.r18, h8.D.t10, h8.D.r14, h8.D.t6, h8.D.r20, h8.D.t12, c8', a1, a2, a3, a4, nar, b2i_and1, Nat.reduceEqDiff, if_false, if_true, ← hM9]
        omega
      · have V8 : ClothV M8 C p := Q7.V.kp (fun a j hn => k8 a j (by omega))
        exact V8.u_row K.O (by omega) hc b6 k9 (by rw [hM9, vi_ne (by omega), vi_ne (by omega), vi_ne (by omega), vi_ne (by omega), vi_self]) (by rw [hM9, vi_ne (by omega), vi_ne (by omega), vi_ne (by omega), vi_self]) (by rw [hM9, vi_ne (by omega), vi_self]) (by rw [k9 _ _ (by omega), k8 _ _ (by omega)]; exact Q7.z11 _ (by omega) (Nat.le_refl _)) (by rw [hM9, vi_self]) (by rw [hM9, vi_ne (by omega), vi_ne (by omega), vi_self])
      · exact ⟨by rw [k9 _ _ (by omega)]; exact N8.nn, N8.n14, fun i hi => by rw [l9, k9 _ _ (by omega), k9 _ _ (by omega)]; exact N8.nw i hi, N8.ok⟩
      · rw [k9 _ _ (by omega), k8 _ _ (by omega)]; exact Q7.told
      · rw [k9 _ _ (by omega), k8 _ _ (by omega)]; exact Q7.st u v hu hv
      · rw [k9 _ _ (by omega), k8 _ _ (by omega)]; exact Q7.wv u i hu hi
      · rw [k9 _ _ (by omega), k8 _ _ (by omega)]; exact Q7.wm u hu
      · rw [k9 _ _ (by omega), k8 _ _ (by omega)]; exact Q7.iw u hu
      · rw [k9 _ _ (by omega), k8 _ _ (by omega)]; exact Q7.inx r hr
      · rw [k9 _ _ (by omega), k8 _ _ (by omega)]; exact Q7.ian r hr
      · have hk : pK (plK p c x6.1 (isW tp n x6.2 9)) ≤ r := hk
        rw [plK_K] at hk
        rw [k9 _ _ (by omega), k8 _ _ (by omega)]; exact Q7.z11 r hr (by omega)

end
