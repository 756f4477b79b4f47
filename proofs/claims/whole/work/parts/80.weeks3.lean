/-! WEEKS in the reference -/
section
variable {M : qM} {X C : Nat} {p : Pl} {lo : Lo} {A : Ab}
theorem Mdl.mvL {M' : qM} {lo' : Lo} (h : Mdl M X C A) (ht : aTd A = true) {S : Nat → Prop} (f : Fr S M M') (hs : ∀ a, S a → a = X ∨ a = X + 2 ∨ (X + 5 ≤ a ∧ a ≤ X + 12)) (hk : ∀ k, k < 22 → vi M' X k = vi M X k) (g : MC M' X C (aPn A) lo') : Mdl M' X C (setLo A lo') := by
  have o : ∀ a, a = X + 1 ∨ a = X + 3 ∨ a = X + 4 → ¬ S a := fun a z q => by have := hs a q; omega
  refine ⟨h.T.fr f, (hk 1 (by decide)).trans h.tr, (hk 2 (by decide)).trans h.wh, (hk 13 (by decide)).trans h.ft, (hk 6 (by decide)).trans h.tl, fun i hi => (f.vi (o _ (by omega)) i).trans (h.tp i hi), fun z => ?_, fun _ => g, (hk 19 (by decide)).trans h.nac, h.nac12, (hk 20 (by decide)).trans h.nmk, h.nmk3, fun i lo e => ⟨(h.ac i lo e).1.fr f (o _ (by omega)), (h.ac i lo e).2⟩, fun i lo e => ⟨(h.mk i lo e).1.fr f (o _ (by omega)), (h.mk i lo e).2⟩⟩
  have z : aTd A = false := z
  rw [ht] at z; cases z
theorem m_told0 (h : MC M X C p lo) (N : ∀ a b, mtB p lo 0 0 a b = false) (s : Nat) : ∃ M', f_X10_told [.ref X, .int (n32 s)] M = some (some (.int (-1)), M') ∧ FR M X M' := by
  obtain ⟨v, M1, e1, f1, r1⟩ := m_findsBest h (most := 0) (by decide)
  rcases r1 with ⟨rfl, i, j, a, b, hB, hij, -⟩ | ⟨rfl, hN⟩
  · have i0 : i = 0 := by omega
    have j0 : j = 0 := by omega
    subst i0; subst j0
    have := hB.2.2.1
    rw [N] at this; cases this
  · refine ⟨M1, ?_, f1.fr2⟩
    apply h_eq
    delta f_X10_told b_X10_told
    simp (disch := omega) only [hR_d, hT_d, hI_t, hI_f, hVI_s, hVL_s, hVR_s, hVT_s, hVV_s, hO_s, hB_0, hB_1, hB_2, hB_r, hU_0, hU_1, hU_2, hU_r, hX_r, hL_0, hL_1, hL_2, hL_r, hC_s, h_k0, h_k1, h_k2, h_k3, h_k4, h_k5, h_k6, h_k7, h_k8, h_k9, h_k10, h_k11, h_k12, h_k14, h_k16, h_k18, h_k20, h_k23, h_k24, h_k25, h_k32, h_k44, h_k48, h_k50, h_k54, h_k57, h_k58, h_k59, h_k60, h_k63, h_k97, h_k100, h_k122, h_k177, h_k255, h_k400, h_k450, h_k625, h_k649, h_k708, h_k800, h_k900, h_k2500, h_k22500, h_k45000, h_kn1, h_kn2, h_kJ, h_kU, h_eI, h_eL, h_eR, h_eT, h_b1, h_eZ, h_not, h_b2, h_b0, h_b0L, h_gI, h_gL, h_gN, h_gR, h_aI, h_aL, h_aR, h_aLen, h_tern, h_and, h_or, h_vN, h_vI, h_vJ, h_vA, h_cFv, h_cFs, h_toI, h_toL, h_toV, h_nO, h_nA, g_skip, g_brk, g_cnt, g_retV, g_seq, g_if, g_setI, g_setR, g_setL, g_inc, g_putI, g_putZ, g_putL, g_putR, g_upI, g_AI, g_AL, g_AR, g_UA, g_exp, g_retI, g_retL, g_retZ, g_scope, g_unBrk, g_sup, h_fn, argE_n, argE_i, argE_r, argE_l, argE_a, sto_0, sto_s, sto_n0, sto_ns, isL_i, isL_r, isL_n, isL_a, isL_l, isL_0, rcv_r, rcv_a, List.getElem?_cons_zero, List.getElem?_cons_succ, List.getElem?_nil, List.set_cons_zero, List.set_cons_succ, List.take_succ_cons, List.take_zero, List.take_nil, List.length_cons, List.length_nil, List.nil_append, List.cons_append, Nat.reduceAdd, Nat.reduceSub, Nat.reduceLT, Nat.reduceEqDiff, Nat.reduceLeDiff, Nat.zero_add, Nat.lt_irrefl, Nat.succ_sub_one, and_true, true_and, and_false, false_and, not_false_eq_true, not_true_eq_false, Bool.false_eq_true, Bool.not_true, Bool.not_false, Bool.not_eq_true', Bool.true_eq_false, decide_true, decide_false, decide_eq_true_eq, decide_eq_false_iff_not, Option.some.injEq, and_self, Nat.add_one_sub_one, Nat.lt_add_one, Nat.zero_lt_succ, Value.int.injEq, Value.ref.injEq, Value.long.injEq, exists_eq_left', exists_eq_left, Sum.inl.injEq, Sum.inr.injEq, i2z_b2i, n32_add, n32_mul, n32_inc, n_iEq, n_iNe, n_iLt, n_iLe, n_iGt, n_iGe, n_zEq, n_zLt, n_zLe, n_zGt, n_zGe, n_inb, n32_clamp, h.T.t, h_of e1]
theorem m_toldP (h : MC M X C p lo) {a b : Nat} {u : List Nat} (hP : PB p lo a b u) {s : Nat} (hs : s < 2) : ∃ M', FR M X M' ∧ (((if s = 0 then a else b) = 0 ∧ f_X10_told [.ref X, .int (n32 s)] M = some (some (.int (-1)), M')) ∨ ((if s = 0 then a else b) ≠ 0 ∧ f_X10_told [.ref X, .int (n32 s)] M = some (some (.int (n32 (u.getD (if s = 0 then 0 else a + b - 1) 0))), M'))) := by
  obtain ⟨v, M1, e1, f1, r1⟩ := m_findsBest h (most := 0) (by decide)
  have ab := mtB_le hP.1.2.2.1
  rcases r1 with ⟨rfl, i, j, a', b', hB, hij, w1, w2, w3, w4⟩ | ⟨rfl, hN⟩
  · obtain ⟨rfl, rfl, rfl, rfl⟩ := hB.uniq hP.1
    have h1 := f1.mc h
    obtain ⟨M2, t', e2, g2, s1, s2, s3⟩ := m_laysRows h1 f1.2.2 hP.1 ⟨w1, w2, w3, w4⟩
    have et : t' = u := Grd.uniq _ t' u s1 hP.2.1 s2 hP.2.2
    subst et
    have h2 := h1.rs g2
    have v3 : vi M2 X 24 = n32 a' := by rw [g2.vi (by unfold rS; omega)]; exact w3
    have v4 : vi M2 X 25 = n32 b' := by rw [g2.vi (by unfold rS; omega)]; exact w4
    match s, hs with
    | 0, _ =>
      by_cases a0 : a' = 0
      · refine ⟨M1, f1.fr2, Or.inl ⟨by simpa using a0, ?_⟩⟩
        apply h_eq
        delta f_X10_told b_X10_told
        simp (disch := omega) only [hR_d, hT_d, hI_t, hI_f, hVI_s, hVL_s, hVR_s, hVT_s, hVV_s, hO_s, hB_0, hB_1, hB_2, hB_r, hU_0, hU_1, hU_2, hU_r, hX_r, hL_0, hL_1, hL_2, hL_r, hC_s, h_k0, h_k1, h_k2, h_k3, h_k4, h_k5, h_k6, h_k7, h_k8, h_k9, h_k10, h_k11, h_k12, h_k14, h_k16, h_k18, h_k20, h_k23, h_k24, h_k25, h_k32, h_k44, h_k48, h_k50, h_k54, h_k57, h_k58, h_k59, h_k60, h_k63, h_k97, h_k100, h_k122, h_k177, h_k255, h_k400, h_k450, h_k625, h_k649, h_k708, h_k800, h_k900, h_k2500, h_k22500, h_k45000, h_kn1, h_kn2, h_kJ, h_kU, h_eI, h_eL, h_eR, h_eT, h_b1, h_eZ, h_not, h_b2, h_b0, h_b0L, h_gI, h_gL, h_gN, h_gR, h_aI, h_aL, h_aR, h_aLen, h_tern, h_and, h_or, h_vN, h_vI, h_vJ, h_vA, h_cFv, h_cFs, h_toI, h_toL, h_toV, h_nO, h_nA, g_skip, g_brk, g_cnt, g_retV, g_seq, g_if, g_setI, g_setR, g_setL, g_inc, g_putI, g_putZ, g_putL, g_putR, g_upI, g_AI, g_AL, g_AR, g_UA, g_exp, g_retI, g_retL, g_retZ, g_scope, g_unBrk, g_sup, h_fn, argE_n, argE_i, argE_r, argE_l, argE_a, sto_0, sto_s, sto_n0, sto_ns, isL_i, isL_r, isL_n, isL_a, isL_l, isL_0, rcv_r, rcv_a, List.getElem?_cons_zero, List.getElem?_cons_succ, List.getElem?_nil, List.set_cons_zero, List.set_cons_succ, List.take_succ_cons, List.take_zero, List.take_nil, List.length_cons, List.length_nil, List.nil_append, List.cons_append, Nat.reduceAdd, Nat.reduceSub, Nat.reduceLT, Nat.reduceEqDiff, Nat.reduceLeDiff, Nat.zero_add, Nat.lt_irrefl, Nat.succ_sub_one, and_true, true_and, and_false, false_and, not_false_eq_true, not_true_eq_false, Bool.false_eq_true, Bool.not_true, Bool.not_false, Bool.not_eq_true', Bool.true_eq_false, decide_true, decide_false, decide_eq_true_eq, decide_eq_false_iff_not, Option.some.injEq, and_self, Nat.add_one_sub_one, Nat.lt_add_one, Nat.zero_lt_succ, Value.int.injEq, Value.ref.injEq, Value.long.injEq, exists_eq_left', exists_eq_left, Sum.inl.injEq, Sum.inr.injEq, i2z_b2i, n32_add, n32_mul, n32_inc, n_iEq, n_iNe, n_iLt, n_iLe, n_iGt, n_iGe, n_zEq, n_zLt, n_zLe, n_zGt, n_zGe, n_inb, n32_clamp, h.T.t, h_of e1, h1.T.t, w3, a0]
      · refine ⟨M2, f1.fr2.rs g2, Or.inr ⟨by simpa using a0, ?_⟩⟩
        have r0 := s3 0 (by omega)
        apply h_eq
        delta f_X10_told b_X10_told
        simp (disch := omega) only [hR_d, hT_d, hI_t, hI_f, hVI_s, hVL_s, hVR_s, hVT_s, hVV_s, hO_s, hB_0, hB_1, hB_2, hB_r, hU_0, hU_1, hU_2, hU_r, hX_r, hL_0, hL_1, hL_2, hL_r, hC_s, h_k0, h_k1, h_k2, h_k3, h_k4, h_k5, h_k6, h_k7, h_k8, h_k9, h_k10, h_k11, h_k12, h_k14, h_k16, h_k18, h_k20, h_k23, h_k24, h_k25, h_k32, h_k44, h_k48, h_k50, h_k54, h_k57, h_k58, h_k59, h_k60, h_k63, h_k97, h_k100, h_k122, h_k177, h_k255, h_k400, h_k450, h_k625, h_k649, h_k708, h_k800, h_k900, h_k2500, h_k22500, h_k45000, h_kn1, h_kn2, h_kJ, h_kU, h_eI, h_eL, h_eR, h_eT, h_b1, h_eZ, h_not, h_b2, h_b0, h_b0L, h_gI, h_gL, h_gN, h_gR, h_aI, h_aL, h_aR, h_aLen, h_tern, h_and, h_or, h_vN, h_vI, h_vJ, h_vA, h_cFv, h_cFs, h_toI, h_toL, h_toV, h_nO, h_nA, g_skip, g_brk, g_cnt, g_retV, g_seq, g_if, g_setI, g_setR, g_setL, g_inc, g_putI, g_putZ, g_putL, g_putR, g_upI, g_AI, g_AL, g_AR, g_UA, g_exp, g_retI, g_retL, g_retZ, g_scope, g_unBrk, g_sup, h_fn, argE_n, argE_i, argE_r, argE_l, argE_a, sto_0, sto_s, sto_n0, sto_ns, isL_i, isL_r, isL_n, isL_a, isL_l, isL_0, rcv_r, rcv_a, List.getElem?_cons_zero, List.getElem?_cons_succ, List.getElem?_nil, List.set_cons_zero, List.set_cons_succ, List.take_succ_cons, List.take_zero, List.take_nil, List.length_cons, List.length_nil, List.nil_append, List.cons_append, Nat.reduceAdd, Nat.reduceSub, Nat.reduceLT, Nat.reduceEqDiff, Nat.reduceLeDiff, Nat.zero_add, Nat.lt_irrefl, Nat.succ_sub_one, and_true, true_and, and_false, false_and, not_false_eq_true, not_true_eq_false, Bool.false_eq_true, Bool.not_true, Bool.not_false, Bool.not_eq_true', Bool.true_eq_false, decide_true, decide_false, decide_eq_true_eq, decide_eq_false_iff_not, Option.some.injEq, and_self, Nat.add_one_sub_one, Nat.lt_add_one, Nat.zero_lt_succ, Value.int.injEq, Value.ref.injEq, Value.long.injEq, exists_eq_left', exists_eq_left, Sum.inl.injEq, Sum.inr.injEq, i2z_b2i, n32_add, n32_mul, n32_inc, n_iEq, n_iNe, n_iLt, n_iLe, n_iGt, n_iGe, n_zEq, n_zLt, n_zLe, n_zGt, n_zGe, n_inb, n32_clamp, h.T.t, h_of e1, h1.T.t, w3, a0, h_of e2, h2.T.t, h2.T.r26, h2.T.t6, r0]
        simp
    | 1, _ =>
      by_cases b0 : b' = 0
      · refine ⟨M1, f1.fr2, Or.inl ⟨by simpa using b0, ?_⟩⟩
        apply h_eq
        delta f_X10_told b_X10_told
        simp (disch := omega) only [hR_d, hT_d, hI_t, hI_f, hVI_s, hVL_s, hVR_s, hVT_s, hVV_s, hO_s, hB_0, hB_1, hB_2, hB_r, hU_0, hU_1, hU_2, hU_r, hX_r, hL_0, hL_1, hL_2, hL_r, hC_s, h_k0, h_k1, h_k2, h_k3, h_k4, h_k5, h_k6, h_k7, h_k8, h_k9, h_k10, h_k11, h_k12, h_k14, h_k16, h_k18, h_k20, h_k23, h_k24, h_k25, h_k32, h_k44, h_k48, h_k50, h_k54, h_k57, h_k58, h_k59, h_k60, h_k63, h_k97, h_k100, h_k122, h_k177, h_k255, h_k400, h_k450, h_k625, h_k649, h_k708, h_k800, h_k900, h_k2500, h_k22500, h_k45000, h_kn1, h_kn2, h_kJ, h_kU, h_eI, h_eL, h_eR, h_eT, h_b1, h_eZ, h_not, h_b2, h_b0, h_b0L, h_gI, h_gL, h_gN, h_gR, h_aI, h_aL, h_aR, h_aLen, h_tern, h_and, h_or, h_vN, h_vI, h_vJ, h_vA, h_cFv, h_cFs, h_toI, h_toL, h_toV, h_nO, h_nA, g_skip, g_brk, g_cnt, g_retV, g_seq, g_if, g_setI, g_setR, g_setL, g_inc, g_putI, g_putZ, g_putL, g_putR, g_upI, g_AI, g_AL, g_AR, g_UA, g_exp, g_retI, g_retL, g_retZ, g_scope, g_unBrk, g_sup, h_fn, argE_n, argE_i, argE_r, argE_l, argE_a, sto_0, sto_s, sto_n0, sto_ns, isL_i, isL_r, isL_n, isL_a, isL_l, isL_0, rcv_r, rcv_a, List.getElem?_cons_zero, List.getElem?_cons_succ, List.getElem?_nil, List.set_cons_zero, List.set_cons_succ, List.take_succ_cons, List.take_zero, List.take_nil, List.length_cons, List.length_nil, List.nil_append, List.cons_append, Nat.reduceAdd, Nat.reduceSub, Nat.reduceLT, Nat.reduceEqDiff, Nat.reduceLeDiff, Nat.zero_add, Nat.lt_irrefl, Nat.succ_sub_one, and_true, true_and, and_false, false_and, not_false_eq_true, not_true_eq_false, Bool.false_eq_true, Bool.not_true, Bool.not_false, Bool.not_eq_true', Bool.true_eq_false, decide_true, decide_false, decide_eq_true_eq, decide_eq_false_iff_not, Option.some.injEq, and_self, Nat.add_one_sub_one, Nat.lt_add_one, Nat.zero_lt_succ, Value.int.injEq, Value.ref.injEq, Value.long.injEq, exists_eq_left', exists_eq_left, Sum.inl.injEq, Sum.inr.injEq, i2z_b2i, n32_add, n32_mul, n32_inc, n_iEq, n_iNe, n_iLt, n_iLe, n_iGt, n_iGe, n_zEq, n_zLt, n_zLe, n_zGt, n_zGe, n_inb, n32_clamp, h.T.t, h_of e1, h1.T.t, w4, b0, Nat.succ_ne_zero]
      · refine ⟨M2, f1.fr2.rs g2, Or.inr ⟨by simpa using b0, ?_⟩⟩
        have r0 := s3 (a' + b' - 1) (by omega)
        apply h_eq
        delta f_X10_told b_X10_told
        simp (disch := omega) only [hR_d, hT_d, hI_t, hI_f, hVI_s, hVL_s, hVR_s, hVT_s, hVV_s, hO_s, hB_0, hB_1, hB_2, hB_r, hU_0, hU_1, hU_2, hU_r, hX_r, hL_0, hL_1, hL_2, hL_r, hC_s, h_k0, h_k1, h_k2, h_k3, h_k4, h_k5, h_k6, h_k7, h_k8, h_k9, h_k10, h_k11, h_k12, h_k14, h_k16, h_k18, h_k20, h_k23, h_k24, h_k25, h_k32, h_k44, h_k48, h_k50, h_k54, h_k57, h_k58, h_k59, h_k60, h_k63, h_k97, h_k100, h_k122, h_k177, h_k255, h_k400, h_k450, h_k625, h_k649, h_k708, h_k800, h_k900, h_k2500, h_k22500, h_k45000, h_kn1, h_kn2, h_kJ, h_kU, h_eI, h_eL, h_eR, h_eT, h_b1, h_eZ, h_not, h_b2, h_b0, h_b0L, h_gI, h_gL, h_gN, h_gR, h_aI, h_aL, h_aR, h_aLen, h_tern, h_and, h_or, h_vN, h_vI, h_vJ, h_vA, h_cFv, h_cFs, h_toI, h_toL, h_toV, h_nO, h_nA, g_skip, g_brk, g_cnt, g_retV, g_seq, g_if, g_setI, g_setR, g_setL, g_inc, g_putI, g_putZ, g_putL, g_putR, g_upI, g_AI, g_AL, g_AR, g_UA, g_exp, g_retI, g_retL, g_retZ, g_scope, g_unBrk, g_sup, h_fn, argE_n, argE_i, argE_r, argE_l, argE_a, sto_0, sto_s, sto_n0, sto_ns, isL_i, isL_r, isL_n, isL_a, isL_l, isL_0, rcv_r, rcv_a, List.getElem?_cons_zero, List.getElem?_cons_succ, List.getElem?_nil, List.set_cons_zero, List.set_cons_succ, List.take_succ_cons, List.take_zero, List.take_nil, List.length_cons, List.length_nil, List.nil_append, List.cons_append, Nat.reduceAdd, Nat.reduceSub, Nat.reduceLT, Nat.reduceEqDiff, Nat.reduceLeDiff, Nat.zero_add, Nat.lt_irrefl, Nat.succ_sub_one, and_true, true_and, and_false, false_and, not_false_eq_true, not_true_eq_false, Bool.false_eq_true, Bool.not_true, Bool.not_false, Bool.not_eq_true', Bool.true_eq_false, decide_true, decide_false, decide_eq_true_eq, decide_eq_false_iff_not, Option.some.injEq, and_self, Nat.add_one_sub_one, Nat.lt_add_one, Nat.zero_lt_succ, Value.int.injEq, Value.ref.injEq, Value.long.injEq, exists_eq_left', exists_eq_left, Sum.inl.injEq, Sum.inr.injEq, i2z_b2i, n32_add, n32_mul, n32_inc, n_iEq, n_iNe, n_iLt, n_iLe, n_iGt, n_iGe, n_zEq, n_zLt, n_zLe, n_zGt, n_zGe, n_inb, n32_clamp, h.T.t, h_of e1, h1.T.t, w4, b0, h_of e2, h2.T.t, h2.T.r26, h2.T.t6, v3, v4, n32_sub, r0, Nat.succ_ne_zero]
        simp
        omega
  · have := hP.1.2.2.1
    rw [hN 0 0 a b (by omega) (by omega) (by omega)] at this; cases this
/-- what cl tries of the left and cr of the right have woven -/
def WJ (p : Pl) (lo : Lo) (cl cr : Nat) (lo' : Lo) (n : Nat) : Prop :=
  (wkV p lo = none ∧ (∀ a b, mtB p lo 0 0 a b = false) ∧ lo' = lo ∧ n = 0) ∨
  ∃ a b t l u r, wkV p lo = some (a, b, t) ∧ WK p lo a b t l u r ∧ l.length = min cl a ∧ r.length = min cr b ∧ lo' = lAdds p (lAdds p lo 0 l) 1 r ∧ n = l.length + r.length
theorem WJ.start (h : MC M X C p lo) : WJ p lo 0 0 lo 0 := by
  obtain ⟨v, M1, e1, f1, r1⟩ := m_findsBest h (most := 0) (by decide)
  rcases r1 with ⟨rfl, i, j, a, b, hB, hij, -⟩ | ⟨rfl, hN⟩
  · have i0 : i = 0 := by omega
    have j0 : j = 0 := by omega
    subst i0; subst j0
    obtain ⟨t, h1, h2, h3⟩ := bstO_B h.O h.L hB
    have wv0 : wkV p lo = some (a, b, t) := by unfold wkV; rw [h1]; simp
    exact Or.inr ⟨a, b, t, [], t, [], wv0, ⟨by simp, Nat.zero_le _, Nat.zero_le _, h.L, hB, h2, h3⟩, by simp, by simp, rfl, rfl⟩
  · have nb : ∀ a b, mtB p lo 0 0 a b = false := fun a b => hN 0 0 a b (Nat.zero_le _) (Nat.zero_le _) (by omega)
    refine Or.inl ⟨?_, nb, rfl, rfl⟩
    unfold wkV
    by_cases q : ∃ x, isB p lo x
    · obtain ⟨x, hx⟩ := q
      rw [bstO_some hx]
      have : ¬ x.1 + x.2.1 = 0 := by
        intro z
        have z1 : x.1 = 0 := by omega
        have z2 : x.2.1 = 0 := by omega
        have := hx.1.2.2.1
        rw [z1, z2, nb] at this
        cases this
      show (if x.1 + x.2.1 = 0 then _ else _) = _
      rw [if_neg this]
    · have : bstO p lo = none := by unfold bstO; rw [dif_neg q]
      rw [this]
theorem WJ.end {p : Pl} {lo lo' : Lo} {m n k : Nat} (h : WJ p lo m m lo' n) : lWk lo' k = wkLo p lo m k ∧ n = wkN p lo m := by
  rcases h with ⟨h1, -, rfl, rfl⟩ | ⟨a, b, t, l, u, r, h1, hW, hl, hr, rfl, rfl⟩
  · unfold wkLo wkN; rw [h1]; exact ⟨rfl, rfl⟩
  · obtain ⟨q1, q2⟩ := hW.end
    rw [hl] at q1
    rw [hr] at q2
    unfold wkLo wkN
    rw [h1, hl, hr]
    refine ⟨?_, rfl⟩
    show _ = lWk (lAdds p (lAdds p lo 0 (t.take (min m a))) 1 (t.reverse.take (min m b))) k
    rw [← q1, ← q2]
theorem WJ.left {lo' : Lo} {cl cr n : Nat} (h : MC M X C p lo') (J : WJ p lo cl cr lo' n) : ∃ M1, FR M X M1 ∧ ((f_X10_told [.ref X, .int (n32 0)] M = some (some (.int (-1)), M1) ∧ WJ p lo (cl + 1) cr lo' n) ∨ ∃ x, f_X10_told [.ref X, .int (n32 0)] M = some (some (.int (n32 x)), M1) ∧ x < pK p ∧ lC lo' 0 < 24 ∧ pTk p x ≤ lS lo' 0 (pCol p x) ∧ WJ p lo (cl + 1) cr (lAdd p lo' 0 x) (n + 1)) := by
  rcases J with ⟨h1, N, rfl, rfl⟩ | ⟨a, b, t, l, u, r, h1, hW, hl, hr, rfl, rfl⟩
  · obtain ⟨M1, e, f⟩ := m_told0 h N 0
    exact ⟨M1, f, Or.inl ⟨e, Or.inl ⟨h1, N, rfl, rfl⟩⟩⟩
  · obtain ⟨M1, f, g⟩ := m_toldP h hW.2.2.2.2 (s := 0) (by decide)
    refine ⟨M1, f, ?_⟩
    rcases g with ⟨g1, g2⟩ | ⟨g1, g2⟩
    · simp only [if_true] at g1
      exact Or.inl ⟨g2, Or.inr ⟨a, b, t, l, u, r, h1, hW, by omega, hr, rfl, rfl⟩⟩
    · simp only [if_true] at g1 g2
      have ul := hW.2.2.2.2.2.1
      obtain ⟨x, u', rfl⟩ : ∃ x u', u = x :: u' := by
        cases u with
        | nil => simp at ul; omega
        | cons x u' => exact ⟨x, u', rfl⟩
      obtain ⟨k1, k2, k3, k4⟩ := hW.left h.O (by omega)
      refine Or.inr ⟨x, g2, k2.1, k1, okx_tk h.O k2, Or.inr ⟨a, b, t, l ++ [x], u', r, h1, k4, by simp; omega, hr, k3, by simp; omega⟩⟩
theorem WJ.right {lo' : Lo} {cl cr n : Nat} (h : MC M X C p lo') (J : WJ p lo cl cr lo' n) : ∃ M1, FR M X M1 ∧ ((f_X10_told [.ref X, .int (n32 1)] M = some (some (.int (-1)), M1) ∧ WJ p lo cl (cr + 1) lo' n) ∨ ∃ x, f_X10_told [.ref X, .int (n32 1)] M = some (some (.int (n32 x)), M1) ∧ x < pK p ∧ lC lo' 1 < 24 ∧ pTk p x ≤ lS lo' 1 (pCol p x) ∧ WJ p lo cl (cr + 1) (lAdd p lo' 1 x) (n + 1)) := by
  rcases J with ⟨h1, N, rfl, rfl⟩ | ⟨a, b, t, l, u, r, h1, hW, hl, hr, rfl, rfl⟩
  · obtain ⟨M1, e, f⟩ := m_told0 h N 1
    exact ⟨M1, f, Or.inl ⟨e, Or.inl ⟨h1, N, rfl, rfl⟩⟩⟩
  · obtain ⟨M1, f, g⟩ := m_toldP h hW.2.2.2.2 (s := 1) (by decide)
    refine ⟨M1, f, ?_⟩
    rcases g with ⟨g1, g2⟩ | ⟨g1, g2⟩
    · simp only [Nat.succ_ne_zero, if_false] at g1
      exact Or.inl ⟨g2, Or.inr ⟨a, b, t, l, u, r, h1, hW, hl, by omega, rfl, rfl⟩⟩
    · simp only [Nat.succ_ne_zero, if_false] at g1 g2
      have ul := hW.2.2.2.2.2.1
      obtain ⟨u', x, rfl⟩ : ∃ u' x, u = u' ++ [x] := by
        rcases List.eq_nil_or_concat u with rfl | ⟨u', x, rfl⟩
        · simp at ul; omega
        · exact ⟨u', x, List.concat_eq_append⟩
      obtain ⟨k1, k2, k3, k4⟩ := hW.right h.O (by omega)
      have ix : a - l.length + (b - r.length) - 1 = u'.length := by simp at ul; omega
      have gx : (u' ++ [x]).getD (a - l.length + (b - r.length) - 1) 0 = x := by rw [ix]; exact gd_end
      rw [gx] at g2
      refine Or.inr ⟨x, g2, k2.1, k1, okx_tk h.O k2, Or.inr ⟨a, b, t, l, u', r ++ [x], h1, k4, hl, by simp; omega, k3, by simp; omega⟩⟩
def WS (M : qM) (X : Nat) (m : qM) : Prop := Fr (fun a => a = X ∨ a = X + 2 ∨ (X + 5 ≤ a ∧ a ≤ X + 8)) M m ∧ ∀ k, k < 22 → vi m X k = vi M X k
theorem WS.fr {m m' : qM} (h : WS M X m) (f : FR m X m') : WS M X m' := ⟨h.1.trans (f.1.mono (fun a z => by omega)), fun k hk => (f.2 k hk).trans (h.2 k hk)⟩
theorem WS.w {m m' : qM} (h : WS M X m) (f : Fr (fun a => a = X + 2) m m') : WS M X m' := ⟨h.1.trans (f.mono (fun a z => by omega)), fun k hk => (f.vi (by omega) k).trans (h.2 k hk)⟩
theorem weeksA_1 (td : aTd A = false) (n : Int32) : weeksA A n = (setTr A 1, -1) := by
  unfold weeksA; rw [if_neg (by rw [td]; decide)]
theorem weeksA_ok (td : aTd A = true) {k : Nat} (k1 : 1 ≤ k) (k9 : k ≤ 9) : weeksA A (n32 k) = (setTr (setLo (setAc A (keepL (aAc A) (aLm A))) (wkLo (aPn A) (aLm A) (k * pRate (aPn A)) k)) 0, n32 (wkN (aPn A) (aLm A) (k * pRate (aPn A)))) := by
  have e : inO true 10 (n32 k) = some k := inO_n (by decide) (by omega)
  unfold weeksA
  rw [if_pos td, e]
  exact if_neg (by omega)
theorem weeksA_2 (td : aTd A = true) {n : Int32} (h : ∀ k, inO true 10 n = some k → k = 0) : weeksA A n = (setTr A 2, -1) := by
  unfold weeksA
  rw [if_pos td]
  cases e : inO true 10 n with
  | none => rfl
  | some k => exact if_pos (h k e)
theorem r_weeks (h : Mdl M X C A) (n : Int32) : ∃ M', f_X10_weeks [.ref X, .int n] M = some (some (.int (weeksA A n).2), M') ∧ MR M X C (weeksA A n).1 M' := by
  have key : hF f_X10_weeks [.ref X, .int n] M (fun v M' => v = some (Value.int (weeksA A n).2) ∧ MR M X C (weeksA A n).1 M') () := by
    have no := fun (t : Nat) (h4 : t ≠ 4) => MR.ro h (t := t) h4
    delta f_X10_weeks b_X10_weeks
    cases td : aTd A
    · rw [weeksA_1 td]
      simp only [hR_d, hT_d, hI_t, hI_f, hVI_s, hVL_s, hVR_s, hVT_s, hVV_s, hO_s, hB_0, hB_1, hB_2, hB_r, hU_0, hU_1, hU_2, hU_r, hX_r, hL_0, hL_1, hL_2, hL_r, hC_s, h_k0, h_k1, h_k2, h_k3, h_k4, h_k5, h_k6, h_k7, h_k8, h_k9, h_k10, h_k11, h_k12, h_k14, h_k16, h_k18, h_k20, h_k23, h_k24, h_k25, h_k32, h_k44, h_k48, h_k50, h_k54, h_k57, h_k58, h_k59, h_k60, h_k63, h_k97, h_k100, h_k122, h_k177, h_k255, h_k400, h_k450, h_k625, h_k649, h_k708, h_k800, h_k900, h_k2500, h_k22500, h_k45000, h_kn1, h_kn2, h_kJ, h_kU, h_eI, h_eL, h_eR, h_eT, h_b1, h_eZ, h_not, h_b2, h_b0, h_b0L, h_gI, h_gL, h_gN, h_gR, h_aI, h_aL, h_aR, h_aLen, h_tern, h_and, h_or, h_vN, h_vI, h_vJ, h_vA, h_cFv, h_cFs, h_toI, h_toL, h_toV, h_nO, h_nA, g_skip, g_brk, g_cnt, g_retV, g_seq, g_if, g_setI, g_setR, g_setL, g_inc, g_putI, g_putZ, g_putL, g_putR, g_upI, g_AI, g_AL, g_AR, g_UA, g_exp, g_retI, g_retL, g_retZ, g_scope, g_unBrk, g_sup, h_fn, argE_n, argE_i, argE_r, argE_l, argE_a, sto_0, sto_s, sto_n0, sto_ns, isL_i, isL_r, isL_n, isL_a, isL_l, isL_0, rcv_r, rcv_a, List.getElem?_cons_zero, List.getElem?_cons_succ, List.getElem?_nil, List.set_cons_zero, List.set_cons_succ, List.take_succ_cons, List.take_zero, List.take_nil, List.length_cons, List.length_nil, List.nil_append, List.cons_append, Nat.reduceAdd, Nat.reduceSub, Nat.reduceLT, Nat.reduceEqDiff, Nat.reduceLeDiff, Nat.zero_add, Nat.lt_irrefl, Nat.succ_sub_one, and_true, true_and, and_false, false_and, not_false_eq_true, not_true_eq_false, Bool.false_eq_true, Bool.not_true, Bool.not_false, Bool.not_eq_true', Bool.true_eq_false, decide_true, decide_false, decide_eq_true_eq, decide_eq_false_iff_not, Option.some.injEq, and_self, Nat.add_one_sub_one, Nat.lt_add_one, Nat.zero_lt_succ, Value.int.injEq, Value.ref.injEq, Value.long.injEq, exists_eq_left', exists_eq_left, Sum.inl.injEq, Sum.inr.injEq, i2z_b2i, n32_add, n32_mul, n32_inc, tg_pI, tg_pL, tg_pR, vr_pI, vr_pL, vl_pI, vl_pR, vi_pL, vi_pR, mN_pI, mN_pL, mN_pR, mU_pI, mU_pL, mU_pR, h.T.t, (h.N td).1, Option.isNone_none, h_of (m_refused (h.tT _ _) _), if_false]
      exact no 1 (by decide)
    · by_cases inn : (iGe n (n32 1) && iLe n (n32 9)) = true
      · have i1 : n32 1 ≤ n := by
          simp only [Bool.and_eq_true, iGe, iLe, decide_eq_true_eq] at inn
          exact inn.1
        have i9 : n ≤ n32 9 := by
          simp only [Bool.and_eq_true, iGe, iLe, decide_eq_true_eq] at inn
          exact inn.2
        have n0 : 0 ≤ n := Int32.le_trans (by decide) i1
        have en := n32_of n0
        have hc := clamp_lt n
        obtain ⟨k, hk⟩ : ∃ k, k = n.toNatClampNeg := ⟨_, rfl⟩
        rw [← hk] at en hc
        subst en
        have k1 : 1 ≤ k := (n32_le (by decide) hc).mp i1
        have k9 : k ≤ 9 := (n32_le hc (by decide)).mp i9
        rw [weeksA_ok td k1 k9]
        have h0 := h.th (n32 0)
        have mi : ∀ m, f_X10_in [.int (n32 k), .int (n32 1), .int (n32 9)] m = some (some (.int (b2i true)), m) := fun m => by rw [m_in, inn]
        obtain ⟨M1, e1, f1, h1⟩ := m_keeps h0 td
        have y1 : MC M1 X C (aPn A) (aLm A) := h1.Y td
        have hr := y1.O.rate
        simp (disch := omega) only [hR_d, hT_d, hI_t, hI_f, hVI_s, hVL_s, hVR_s, hVT_s, hVV_s, hO_s, hB_0, hB_1, hB_2, hB_r, hU_0, hU_1, hU_2, hU_r, hX_r, hL_0, hL_1, hL_2, hL_r, hC_s, h_k0, h_k1, h_k2, h_k3, h_k4, h_k5, h_k6, h_k7, h_k8, h_k9, h_k10, h_k11, h_k12, h_k14, h_k16, h_k18, h_k20, h_k23, h_k24, h_k25, h_k32, h_k44, h_k48, h_k50, h_k54, h_k57, h_k58, h_k59, h_k60, h_k63, h_k97, h_k100, h_k122, h_k177, h_k255, h_k400, h_k450, h_k625, h_k649, h_k708, h_k800, h_k900, h_k2500, h_k22500, h_k45000, h_kn1, h_kn2, h_kJ, h_kU, h_eI, h_eL, h_eR, h_eT, h_b1, h_eZ, h_not, h_b2, h_b0, h_b0L, h_gI, h_gL, h_gN, h_gR, h_aI, h_aL, h_aR, h_aLen, h_tern, h_and, h_or, h_vN, h_vI, h_vJ, h_vA, h_cFv, h_cFs, h_toI, h_toL, h_toV, h_nO, h_nA, g_skip, g_brk, g_cnt, g_retV, g_seq, g_if, g_setI, g_setR, g_setL, g_inc, g_putI, g_putZ, g_putL, g_putR, g_upI, g_AI, g_AL, g_AR, g_UA, g_exp, g_retI, g_retL, g_retZ, g_scope, g_unBrk, g_sup, h_fn, argE_n, argE_i, argE_r, argE_l, argE_a, sto_0, sto_s, sto_n0, sto_ns, isL_i, isL_r, isL_n, isL_a, isL_l, isL_0, rcv_r, rcv_a, List.getElem?_cons_zero, List.getElem?_cons_succ, List.getElem?_nil, List.set_cons_zero, List.set_cons_succ, List.take_succ_cons, List.take_zero, List.take_nil, List.length_cons, List.length_nil, List.nil_append, List.cons_append, Nat.reduceAdd, Nat.reduceSub, Nat.reduceLT, Nat.reduceEqDiff, Nat.reduceLeDiff, Nat.zero_add, Nat.lt_irrefl, Nat.succ_sub_one, and_true, true_and, and_false, false_and, not_false_eq_true, not_true_eq_false, Bool.false_eq_true, Bool.not_true, Bool.not_false, Bool.not_eq_true', Bool.true_eq_false, decide_true, decide_false, decide_eq_true_eq, decide_eq_false_iff_not, Option.some.injEq, and_self, Nat.add_one_sub_one, Nat.lt_add_one, Nat.zero_lt_succ, Value.int.injEq, Value.ref.injEq, Value.long.injEq, exists_eq_left', exists_eq_left, Sum.inl.injEq, Sum.inr.injEq, i2z_b2i, n32_add, n32_mul, n32_inc, n_iEq, n_iNe, n_iLt, n_iLe, n_iGt, n_iGe, n_zEq, n_zLt, n_zLe, n_zGt, n_zGe, n_inb, n32_clamp, tg_pI, tg_pL, tg_pR, vr_pI, vr_pL, vl_pI, vl_pR, vi_pL, vi_pR, mN_pI, mN_pL, mN_pR, mU_pI, mU_pL, mU_pR, h.T.t, (h.Y td).r3, Option.isNone_some, h_of (mi _), h_of e1]
        refine h_up (fun j e m => ∃ w lo', e = [.ref X, .int (n32 k), .int (n32 w), .int (n32 j)] ∧ WS M1 X m ∧ MC m X C (aPn A) lo' ∧ WJ (aPn A) (aLm A) (j * pRate (aPn A)) (j * pRate (aPn A)) lo' w) k ⟨0, aLm A, rfl, ⟨Fr.refl _ _, fun _ _ => rfl⟩, y1, by rw [Nat.zero_mul]; exact WJ.start y1⟩ ?_ ?_
        · rintro j e m hj ⟨w, lo', rfl, ws, g, J⟩
          simp (disch := omega) only [hR_d, hT_d, hI_t, hI_f, hVI_s, hVL_s, hVR_s, hVT_s, hVV_s, hO_s, hB_0, hB_1, hB_2, hB_r, hU_0, hU_1, hU_2, hU_r, hX_r, hL_0, hL_1, hL_2, hL_r, hC_s, h_k0, h_k1, h_k2, h_k3, h_k4, h_k5, h_k6, h_k7, h_k8, h_k9, h_k10, h_k11, h_k12, h_k14, h_k16, h_k18, h_k20, h_k23, h_k24, h_k25, h_k32, h_k44, h_k48, h_k50, h_k54, h_k57, h_k58, h_k59, h_k60, h_k63, h_k97, h_k100, h_k122, h_k177, h_k255, h_k400, h_k450, h_k625, h_k649, h_k708, h_k800, h_k900, h_k2500, h_k22500, h_k45000, h_kn1, h_kn2, h_kJ, h_kU, h_eI, h_eL, h_eR, h_eT, h_b1, h_eZ, h_not, h_b2, h_b0, h_b0L, h_gI, h_gL, h_gN, h_gR, h_aI, h_aL, h_aR, h_aLen, h_tern, h_and, h_or, h_vN, h_vI, h_vJ, h_vA, h_cFv, h_cFs, h_toI, h_toL, h_toV, h_nO, h_nA, g_skip, g_brk, g_cnt, g_retV, g_seq, g_if, g_setI, g_setR, g_setL, g_inc, g_putI, g_putZ, g_putL, g_putR, g_upI, g_AI, g_AL, g_AR, g_UA, g_exp, g_retI, g_retL, g_retZ, g_scope, g_unBrk, g_sup, h_fn, argE_n, argE_i, argE_r, argE_l, argE_a, sto_0, sto_s, sto_n0, sto_ns, isL_i, isL_r, isL_n, isL_a, isL_l, isL_0, rcv_r, rcv_a, List.getElem?_cons_zero, List.getElem?_cons_succ, List.getElem?_nil, List.set_cons_zero, List.set_cons_succ, List.take_succ_cons, List.take_zero, List.take_nil, List.length_cons, List.length_nil, List.nil_append, List.cons_append, Nat.reduceAdd, Nat.reduceSub, Nat.reduceLT, Nat.reduceEqDiff, Nat.reduceLeDiff, Nat.zero_add, Nat.lt_irrefl, Nat.succ_sub_one, and_true, true_and, and_false, false_and, not_false_eq_true, not_true_eq_false, Bool.false_eq_true, Bool.not_true, Bool.not_false, Bool.not_eq_true', Bool.true_eq_false, decide_true, decide_false, decide_eq_true_eq, decide_eq_false_iff_not, Option.some.injEq, and_self, Nat.add_one_sub_one, Nat.lt_add_one, Nat.zero_lt_succ, Value.int.injEq, Value.ref.injEq, Value.long.injEq, exists_eq_left', exists_eq_left, Sum.inl.injEq, Sum.inr.injEq, i2z_b2i, n32_add, n32_mul, n32_inc, n_iEq, n_iNe, n_iLt, n_iLe, n_iGt, n_iGe, n_zEq, n_zLt, n_zLe, n_zGt, n_zGe, n_inb, n32_clamp, hj]
          refine h_up (fun i e m => ∃ w lo', e = [.ref X, .int (n32 k), .int (n32 w), .int (n32 j), .int (n32 i)] ∧ WS M1 X m ∧ MC m X C (aPn A) lo' ∧ WJ (aPn A) (aLm A) (j * pRate (aPn A) + min i (pRate (aPn A))) (j * pRate (aPn A) + (i - pRate (aPn A))) lo' w) (2 * pRate (aPn A)) ⟨w, lo', rfl, ws, g, by simpa using J⟩ ?_ ?_
          · rintro i e m hi ⟨w, lo', rfl, ws, g, J⟩
            by_cases ir : i < pRate (aPn A)
            · have c1 : j * pRate (aPn A) + min (i + 1) (pRate (aPn A)) = j * pRate (aPn A) + min i (pRate (aPn A)) + 1 := by omega
              have c2 : j * pRate (aPn A) + (i + 1 - pRate (aPn A)) = j * pRate (aPn A) + (i - pRate (aPn A)) := by omega
              obtain ⟨m1, f2, g2⟩ := J.left g
              have gm := f2.mc g
              rcases g2 with ⟨e2, J2⟩ | ⟨x, e2, x1, x2, x3, J2⟩
              · have q : iEq (-1) (-1) = true := by decide
                simp (disch := omega) only [hR_d, hT_d, hI_t, hI_f, hVI_s, hVL_s, hVR_s, hVT_s, hVV_s, hO_s, hB_0, hB_1, hB_2, hB_r, hU_0, hU_1, hU_2, hU_r, hX_r, hL_0, hL_1, hL_2, hL_r, hC_s, h_k0, h_k1, h_k2, h_k3, h_k4, h_k5, h_k6, h_k7, h_k8, h_k9, h_k10, h_k11, h_k12, h_k14, h_k16, h_k18, h_k20, h_k23, h_k24, h_k25, h_k32, h_k44, h_k48, h_k50, h_k54, h_k57, h_k58, h_k59, h_k60, h_k63, h_k97, h_k100, h_k122, h_k177, h_k255, h_k400, h_k450, h_k625, h_k649, h_k708, h_k800, h_k900, h_k2500, h_k22500, h_k45000, h_kn1, h_kn2, h_kJ, h_kU, h_eI, h_eL, h_eR, h_eT, h_b1, h_eZ, h_not, h_b2, h_b0, h_b0L, h_gI, h_gL, h_gN, h_gR, h_aI, h_aL, h_aR, h_aLen, h_tern, h_and, h_or, h_vN, h_vI, h_vJ, h_vA, h_cFv, h_cFs, h_toI, h_toL, h_toV, h_nO, h_nA, g_skip, g_brk, g_cnt, g_retV, g_seq, g_if, g_setI, g_setR, g_setL, g_inc, g_putI, g_putZ, g_putL, g_putR, g_upI, g_AI, g_AL, g_AR, g_UA, g_exp, g_retI, g_retL, g_retZ, g_scope, g_unBrk, g_sup, h_fn, argE_n, argE_i, argE_r, argE_l, argE_a, sto_0, sto_s, sto_n0, sto_ns, isL_i, isL_r, isL_n, isL_a, isL_l, isL_0, rcv_r, rcv_a, List.getElem?_cons_zero, List.getElem?_cons_succ, List.getElem?_nil, List.set_cons_zero, List.set_cons_succ, List.take_succ_cons, List.take_zero, List.take_nil, List.length_cons, List.length_nil, List.nil_append, List.cons_append, Nat.reduceAdd, Nat.reduceSub, Nat.reduceLT, Nat.reduceEqDiff, Nat.reduceLeDiff, Nat.zero_add, Nat.lt_irrefl, Nat.succ_sub_one, and_true, true_and, and_false, false_and, not_false_eq_true, not_true_eq_false, Bool.false_eq_true, Bool.not_true, Bool.not_false, Bool.not_eq_true', Bool.true_eq_false, decide_true, decide_false, decide_eq_true_eq, decide_eq_false_iff_not, Option.some.injEq, and_self, Nat.add_one_sub_one, Nat.lt_add_one, Nat.zero_lt_succ, Value.int.injEq, Value.ref.injEq, Value.long.injEq, exists_eq_left', exists_eq_left, Sum.inl.injEq, Sum.inr.injEq, i2z_b2i, n32_add, n32_mul, n32_inc, n_iEq, n_iNe, n_iLt, n_iLe, n_iGt, n_iGe, n_zEq, n_zLt, n_zLe, n_zGt, n_zGe, n_inb, n32_clamp, hi, ir, g.T.t, g.r3, g.D.t, g.V.rate, h_of e2, q]
                exact ⟨w, lo', rfl, ws.fr f2, gm, by rw [c1, c2]; exact J2⟩
              · obtain ⟨m2, e3, f3, g3⟩ := m_weaves gm (s := 0) (by decide) x1 x2 x3
                have hK := g.O.kinds
                have q : iEq (n32 x) (-1) = false := by
                  have : ∀ x : Fin 8, iEq (n32 x) (-1) = false := by decide
                  exact this ⟨x, by omega⟩
                simp (disch := omega) only [hR_d, hT_d, hI_t, hI_f, hVI_s, hVL_s, hVR_s, hVT_s, hVV_s, hO_s, hB_0, hB_1, hB_2, hB_r, hU_0, hU_1, hU_2, hU_r, hX_r, hL_0, hL_1, hL_2, hL_r, hC_s, h_k0, h_k1, h_k2, h_k3, h_k4, h_k5, h_k6, h_k7, h_k8, h_k9, h_k10, h_k11, h_k12, h_k14, h_k16, h_k18, h_k20, h_k23, h_k24, h_k25, h_k32, h_k44, h_k48, h_k50, h_k54, h_k57, h_k58, h_k59, h_k60, h_k63, h_k97, h_k100, h_k122, h_k177, h_k255, h_k400, h_k450, h_k625, h_k649, h_k708, h_k800, h_k900, h_k2500, h_k22500, h_k45000, h_kn1, h_kn2, h_kJ, h_kU, h_eI, h_eL, h_eR, h_eT, h_b1, h_eZ, h_not, h_b2, h_b0, h_b0L, h_gI, h_gL, h_gN, h_gR, h_aI, h_aL, h_aR, h_aLen, h_tern, h_and, h_or, h_vN, h_vI, h_vJ, h_vA, h_cFv, h_cFs, h_toI, h_toL, h_toV, h_nO, h_nA, g_skip, g_brk, g_cnt, g_retV, g_seq, g_if, g_setI, g_setR, g_setL, g_inc, g_putI, g_putZ, g_putL, g_putR, g_upI, g_AI, g_AL, g_AR, g_UA, g_exp, g_retI, g_retL, g_retZ, g_scope, g_unBrk, g_sup, h_fn, argE_n, argE_i, argE_r, argE_l, argE_a, sto_0, sto_s, sto_n0, sto_ns, isL_i, isL_r, isL_n, isL_a, isL_l, isL_0, rcv_r, rcv_a, List.getElem?_cons_zero, List.getElem?_cons_succ, List.getElem?_nil, List.set_cons_zero, List.set_cons_succ, List.take_succ_cons, List.take_zero, List.take_nil, List.length_cons, List.length_nil, List.nil_append, List.cons_append, Nat.reduceAdd, Nat.reduceSub, Nat.reduceLT, Nat.reduceEqDiff, Nat.reduceLeDiff, Nat.zero_add, Nat.lt_irrefl, Nat.succ_sub_one, and_true, true_and, and_false, false_and, not_false_eq_true, not_true_eq_false, Bool.false_eq_true, Bool.not_true, Bool.not_false, Bool.not_eq_true', Bool.true_eq_false, decide_true, decide_false, decide_eq_true_eq, decide_eq_false_iff_not, Option.some.injEq, and_self, Nat.add_one_sub_one, Nat.lt_add_one, Nat.zero_lt_succ, Value.int.injEq, Value.ref.injEq, Value.long.injEq, exists_eq_left', exists_eq_left, Sum.inl.injEq, Sum.inr.injEq, i2z_b2i, n32_add, n32_mul, n32_inc, n_iEq, n_iNe, n_iLt, n_iLe, n_iGt, n_iGe, n_zEq, n_zLt, n_zLe, n_zGt, n_zGe, n_inb, n32_clamp, hi, ir, g.T.t, g.r3, g.D.t, g.V.rate, h_of e2, q, gm.T.t, h_of e3]
                exact ⟨w + 1, _, rfl, (ws.fr f2).w f3, g3, by rw [c1, c2]; exact J2⟩
            · have c1 : j * pRate (aPn A) + min (i + 1) (pRate (aPn A)) = j * pRate (aPn A) + min i (pRate (aPn A)) := by omega
              have c2 : j * pRate (aPn A) + (i + 1 - pRate (aPn A)) = j * pRate (aPn A) + (i - pRate (aPn A)) + 1 := by omega
              obtain ⟨m1, f2, g2⟩ := J.right g
              have gm := f2.mc g
              rcases g2 with ⟨e2, J2⟩ | ⟨x, e2, x1, x2, x3, J2⟩
              · have q : iEq (-1) (-1) = true := by decide
                simp (disch := omega) only [hR_d, hT_d, hI_t, hI_f, hVI_s, hVL_s, hVR_s, hVT_s, hVV_s, hO_s, hB_0, hB_1, hB_2, hB_r, hU_0, hU_1, hU_2, hU_r, hX_r, hL_0, hL_1, hL_2, hL_r, hC_s, h_k0, h_k1, h_k2, h_k3, h_k4, h_k5, h_k6, h_k7, h_k8, h_k9, h_k10, h_k11, h_k12, h_k14, h_k16, h_k18, h_k20, h_k23, h_k24, h_k25, h_k32, h_k44, h_k48, h_k50, h_k54, h_k57, h_k58, h_k59, h_k60, h_k63, h_k97, h_k100, h_k122, h_k177, h_k255, h_k400, h_k450, h_k625, h_k649, h_k708, h_k800, h_k900, h_k2500, h_k22500, h_k45000, h_kn1, h_kn2, h_kJ, h_kU, h_eI, h_eL, h_eR, h_eT, h_b1, h_eZ, h_not, h_b2, h_b0, h_b0L, h_gI, h_gL, h_gN, h_gR, h_aI, h_aL, h_aR, h_aLen, h_tern, h_and, h_or, h_vN, h_vI, h_vJ, h_vA, h_cFv, h_cFs, h_toI, h_toL, h_toV, h_nO, h_nA, g_skip, g_brk, g_cnt, g_retV, g_seq, g_if, g_setI, g_setR, g_setL, g_inc, g_putI, g_putZ, g_putL, g_putR, g_upI, g_AI, g_AL, g_AR, g_UA, g_exp, g_retI, g_retL, g_retZ, g_scope, g_unBrk, g_sup, h_fn, argE_n, argE_i, argE_r, argE_l, argE_a, sto_0, sto_s, sto_n0, sto_ns, isL_i, isL_r, isL_n, isL_a, isL_l, isL_0, rcv_r, rcv_a, List.getElem?_cons_zero, List.getElem?_cons_succ, List.getElem?_nil, List.set_cons_zero, List.set_cons_succ, List.take_succ_cons, List.take_zero, List.take_nil, List.length_cons, List.length_nil, List.nil_append, List.cons_append, Nat.reduceAdd, Nat.reduceSub, Nat.reduceLT, Nat.reduceEqDiff, Nat.reduceLeDiff, Nat.zero_add, Nat.lt_irrefl, Nat.succ_sub_one, and_true, true_and, and_false, false_and, not_false_eq_true, not_true_eq_false, Bool.false_eq_true, Bool.not_true, Bool.not_false, Bool.not_eq_true', Bool.true_eq_false, decide_true, decide_false, decide_eq_true_eq, decide_eq_false_iff_not, Option.some.injEq, and_self, Nat.add_one_sub_one, Nat.lt_add_one, Nat.zero_lt_succ, Value.int.injEq, Value.ref.injEq, Value.long.injEq, exists_eq_left', exists_eq_left, Sum.inl.injEq, Sum.inr.injEq, i2z_b2i, n32_add, n32_mul, n32_inc, n_iEq, n_iNe, n_iLt, n_iLe, n_iGt, n_iGe, n_zEq, n_zLt, n_zLe, n_zGt, n_zGe, n_inb, n32_clamp, hi, ir, g.T.t, g.r3, g.D.t, g.V.rate, h_of e2, q]
                exact ⟨w, lo', rfl, ws.fr f2, gm, by rw [c1, c2]; exact J2⟩
              · obtain ⟨m2, e3, f3, g3⟩ := m_weaves gm (s := 1) (by decide) x1 x2 x3
                have hK := g.O.kinds
                have q : iEq (n32 x) (-1) = false := by
                  have : ∀ x : Fin 8, iEq (n32 x) (-1) = false := by decide
                  exact this ⟨x, by omega⟩
                simp (disch := omega) only [hR_d, hT_d, hI_t, hI_f, hVI_s, hVL_s, hVR_s, hVT_s, hVV_s, hO_s, hB_0, hB_1, hB_2, hB_r, hU_0, hU_1, hU_2, hU_r, hX_r, hL_0, hL_1, hL_2, hL_r, hC_s, h_k0, h_k1, h_k2, h_k3, h_k4, h_k5, h_k6, h_k7, h_k8, h_k9, h_k10, h_k11, h_k12, h_k14, h_k16, h_k18, h_k20, h_k23, h_k24, h_k25, h_k32, h_k44, h_k48, h_k50, h_k54, h_k57, h_k58, h_k59, h_k60, h_k63, h_k97, h_k100, h_k122, h_k177, h_k255, h_k400, h_k450, h_k625, h_k649, h_k708, h_k800, h_k900, h_k2500, h_k22500, h_k45000, h_kn1, h_kn2, h_kJ, h_kU, h_eI, h_eL, h_eR, h_eT, h_b1, h_eZ, h_not, h_b2, h_b0, h_b0L, h_gI, h_gL, h_gN, h_gR, h_aI, h_aL, h_aR, h_aLen, h_tern, h_and, h_or, h_vN, h_vI, h_vJ, h_vA, h_cFv, h_cFs, h_toI, h_toL, h_toV, h_nO, h_nA, g_skip, g_brk, g_cnt, g_retV, g_seq, g_if, g_setI, g_setR, g_setL, g_inc, g_putI, g_putZ, g_putL, g_putR, g_upI, g_AI, g_AL, g_AR, g_UA, g_exp, g_retI, g_retL, g_retZ, g_scope, g_unBrk, g_sup, h_fn, argE_n, argE_i, argE_r, argE_l, argE_a, sto_0, sto_s, sto_n0, sto_ns, isL_i, isL_r, isL_n, isL_a, isL_l, isL_0, rcv_r, rcv_a, List.getElem?_cons_zero, List.getElem?_cons_succ, List.getElem?_nil, List.set_cons_zero, List.set_cons_succ, List.take_succ_cons, List.take_zero, List.take_nil, List.length_cons, List.length_nil, List.nil_append, List.cons_append, Nat.reduceAdd, Nat.reduceSub, Nat.reduceLT, Nat.reduceEqDiff, Nat.reduceLeDiff, Nat.zero_add, Nat.lt_irrefl, Nat.succ_sub_one, and_true, true_and, and_false, false_and, not_false_eq_true, not_true_eq_false, Bool.false_eq_true, Bool.not_true, Bool.not_false, Bool.not_eq_true', Bool.true_eq_false, decide_true, decide_false, decide_eq_true_eq, decide_eq_false_iff_not, Option.some.injEq, and_self, Nat.add_one_sub_one, Nat.lt_add_one, Nat.zero_lt_succ, Value.int.injEq, Value.ref.injEq, Value.long.injEq, exists_eq_left', exists_eq_left, Sum.inl.injEq, Sum.inr.injEq, i2z_b2i, n32_add, n32_mul, n32_inc, n_iEq, n_iNe, n_iLt, n_iLe, n_iGt, n_iGe, n_zEq, n_zLt, n_zLe, n_zGt, n_zGe, n_inb, n32_clamp, hi, ir, g.T.t, g.r3, g.D.t, g.V.rate, h_of e2, q, gm.T.t, h_of e3]
                exact ⟨w + 1, _, rfl, (ws.fr f2).w f3, g3, by rw [c1, c2]; exact J2⟩
          · rintro e m ⟨w, lo', rfl, ws, g, J⟩
            simp (disch := omega) only [hR_d, hT_d, hI_t, hI_f, hVI_s, hVL_s, hVR_s, hVT_s, hVV_s, hO_s, hB_0, hB_1, hB_2, hB_r, hU_0, hU_1, hU_2, hU_r, hX_r, hL_0, hL_1, hL_2, hL_r, hC_s, h_k0, h_k1, h_k2, h_k3, h_k4, h_k5, h_k6, h_k7, h_k8, h_k9, h_k10, h_k11, h_k12, h_k14, h_k16, h_k18, h_k20, h_k23, h_k24, h_k25, h_k32, h_k44, h_k48, h_k50, h_k54, h_k57, h_k58, h_k59, h_k60, h_k63, h_k97, h_k100, h_k122, h_k177, h_k255, h_k400, h_k450, h_k625, h_k649, h_k708, h_k800, h_k900, h_k2500, h_k22500, h_k45000, h_kn1, h_kn2, h_kJ, h_kU, h_eI, h_eL, h_eR, h_eT, h_b1, h_eZ, h_not, h_b2, h_b0, h_b0L, h_gI, h_gL, h_gN, h_gR, h_aI, h_aL, h_aR, h_aLen, h_tern, h_and, h_or, h_vN, h_vI, h_vJ, h_vA, h_cFv, h_cFs, h_toI, h_toL, h_toV, h_nO, h_nA, g_skip, g_brk, g_cnt, g_retV, g_seq, g_if, g_setI, g_setR, g_setL, g_inc, g_putI, g_putZ, g_putL, g_putR, g_upI, g_AI, g_AL, g_AR, g_UA, g_exp, g_retI, g_retL, g_retZ, g_scope, g_unBrk, g_sup, h_fn, argE_n, argE_i, argE_r, argE_l, argE_a, sto_0, sto_s, sto_n0, sto_ns, isL_i, isL_r, isL_n, isL_a, isL_l, isL_0, rcv_r, rcv_a, List.getElem?_cons_zero, List.getElem?_cons_succ, List.getElem?_nil, List.set_cons_zero, List.set_cons_succ, List.take_succ_cons, List.take_zero, List.take_nil, List.length_cons, List.length_nil, List.nil_append, List.cons_append, Nat.reduceAdd, Nat.reduceSub, Nat.reduceLT, Nat.reduceEqDiff, Nat.reduceLeDiff, Nat.zero_add, Nat.lt_irrefl, Nat.succ_sub_one, and_true, true_and, and_false, false_and, not_false_eq_true, not_true_eq_false, Bool.false_eq_true, Bool.not_true, Bool.not_false, Bool.not_eq_true', Bool.true_eq_false, decide_true, decide_false, decide_eq_true_eq, decide_eq_false_iff_not, Option.some.injEq, and_self, Nat.add_one_sub_one, Nat.lt_add_one, Nat.zero_lt_succ, Value.int.injEq, Value.ref.injEq, Value.long.injEq, exists_eq_left', exists_eq_left, Sum.inl.injEq, Sum.inr.injEq, i2z_b2i, n32_add, n32_mul, n32_inc, n_iEq, n_iNe, n_iLt, n_iLe, n_iGt, n_iGe, n_zEq, n_zLt, n_zLe, n_zGt, n_zGe, n_inb, n32_clamp, g.T.t, g.r3, g.D.t, g.V.rate]
            refine ⟨w, lo', rfl, ws, g, ?_⟩
            have c1 : j * pRate (aPn A) + min (2 * pRate (aPn A)) (pRate (aPn A)) = (j + 1) * pRate (aPn A) := by rw [Nat.add_mul]; omega
            have c2 : j * pRate (aPn A) + (2 * pRate (aPn A) - pRate (aPn A)) = (j + 1) * pRate (aPn A) := by rw [Nat.add_mul]; omega
            rw [c1, c2] at J
            exact J
        · rintro e m ⟨w, lo', rfl, ws, g, J⟩
          obtain ⟨E1, E2⟩ := J.end (k := k)
          subst E2
          obtain ⟨m', hm'⟩ : ∃ m', m' = pI m (X + 2) 58 (n32 (lK lo' + k)) := ⟨_, rfl⟩
          have f3 : Fr (fun a => a = X + 2) m m' := by rw [hm']; exact (Fr.refl (fun a => a = X + 2) m).pI _ _ rfl
          have kv : vi m (X + 2) 58 = n32 (lK lo') := g.W.k0
          have W' : LoW m' (X + 2) 0 (lWk lo' k) := by
            have c0 := g.L.c 0 (by decide)
            have c1 := g.L.c 1 (by decide)
            refine ⟨fun s hs => ?_, fun s i hs hi => ?_, fun s c hs hc => ?_, fun s c hs hc => ?_, ?_⟩
            · rw [hm', vi_nk (by omega)]; exact g.W.c s hs
            · have hi' : i < lC lo' s := hi
              have := g.L.c s hs
              rw [hm', vi_nk (by omega)]; exact g.W.r s i hs hi
            · rw [hm', vi_nk (by omega)]; exact g.W.st s c hs hc
            · rw [hm', vi_nk (by omega)]; exact g.W.w s c hs hc
            · rw [hm']; exact vi_self _ _ _ _
          have g' := g.wre f3 W' (show LoOK (pK (aPn A)) (lWk lo' k) from g.L)
          rw [E1] at g'
          have ws' := ws.w f3
          have h3 := h1.mvL td ws'.1 (fun a z => by omega) ws'.2 g'
          simp (disch := omega) only [hR_d, hT_d, hI_t, hI_f, hVI_s, hVL_s, hVR_s, hVT_s, hVV_s, hO_s, hB_0, hB_1, hB_2, hB_r, hU_0, hU_1, hU_2, hU_r, hX_r, hL_0, hL_1, hL_2, hL_r, hC_s, h_k0, h_k1, h_k2, h_k3, h_k4, h_k5, h_k6, h_k7, h_k8, h_k9, h_k10, h_k11, h_k12, h_k14, h_k16, h_k18, h_k20, h_k23, h_k24, h_k25, h_k32, h_k44, h_k48, h_k50, h_k54, h_k57, h_k58, h_k59, h_k60, h_k63, h_k97, h_k100, h_k122, h_k177, h_k255, h_k400, h_k450, h_k625, h_k649, h_k708, h_k800, h_k900, h_k2500, h_k22500, h_k45000, h_kn1, h_kn2, h_kJ, h_kU, h_eI, h_eL, h_eR, h_eT, h_b1, h_eZ, h_not, h_b2, h_b0, h_b0L, h_gI, h_gL, h_gN, h_gR, h_aI, h_aL, h_aR, h_aLen, h_tern, h_and, h_or, h_vN, h_vI, h_vJ, h_vA, h_cFv, h_cFs, h_toI, h_toL, h_toV, h_nO, h_nA, g_skip, g_brk, g_cnt, g_retV, g_seq, g_if, g_setI, g_setR, g_setL, g_inc, g_putI, g_putZ, g_putL, g_putR, g_upI, g_AI, g_AL, g_AR, g_UA, g_exp, g_retI, g_retL, g_retZ, g_scope, g_unBrk, g_sup, h_fn, argE_n, argE_i, argE_r, argE_l, argE_a, sto_0, sto_s, sto_n0, sto_ns, isL_i, isL_r, isL_n, isL_a, isL_l, isL_0, rcv_r, rcv_a, List.getElem?_cons_zero, List.getElem?_cons_succ, List.getElem?_nil, List.set_cons_zero, List.set_cons_succ, List.take_succ_cons, List.take_zero, List.take_nil, List.length_cons, List.length_nil, List.nil_append, List.cons_append, Nat.reduceAdd, Nat.reduceSub, Nat.reduceLT, Nat.reduceEqDiff, Nat.reduceLeDiff, Nat.zero_add, Nat.lt_irrefl, Nat.succ_sub_one, and_true, true_and, and_false, false_and, not_false_eq_true, not_true_eq_false, Bool.false_eq_true, Bool.not_true, Bool.not_false, Bool.not_eq_true', Bool.true_eq_false, decide_true, decide_false, decide_eq_true_eq, decide_eq_false_iff_not, Option.some.injEq, and_self, Nat.add_one_sub_one, Nat.lt_add_one, Nat.zero_lt_succ, Value.int.injEq, Value.ref.injEq, Value.long.injEq, exists_eq_left', exists_eq_left, Sum.inl.injEq, Sum.inr.injEq, i2z_b2i, n32_add, n32_mul, n32_inc, n_iEq, n_iNe, n_iLt, n_iLe, n_iGt, n_iGe, n_zEq, n_zLt, n_zLe, n_zGt, n_zGe, n_inb, n32_clamp, g.T.t, g.T.r16, g.T.t2, kv, ← hm', g'.T.t, h_of (m_good g'.T _)]
          exact MR.end h3 (((frX (Fr.refl _ M)).trans (f1.mono (fun a z => by omega))).trans (ws'.1.mono (fun a z => by omega))) (t := 0) (by decide)
      · have inn : (iGe n (n32 1) && iLe n (n32 9)) = false := by
          cases q : (iGe n (n32 1) && iLe n (n32 9))
          · rfl
          · exact absurd q inn
        have mi : ∀ m, f_X10_in [.int n, .int (n32 1), .int (n32 9)] m = some (some (.int (b2i false)), m) := fun m => by rw [m_in, inn]
        have ev : ∀ k, inO true 10 n = some k → k = 0 := by
          intro k e
          obtain ⟨-, hk, rfl⟩ := inO_some (by decide) e
          rw [n_iGe (by omega) (by decide), n_iLe (by omega) (by decide)] at inn
          simp at inn
          omega
        rw [weeksA_2 td ev]
        simp only [hR_d, hT_d, hI_t, hI_f, hVI_s, hVL_s, hVR_s, hVT_s, hVV_s, hO_s, hB_0, hB_1, hB_2, hB_r, hU_0, hU_1, hU_2, hU_r, hX_r, hL_0, hL_1, hL_2, hL_r, hC_s, h_k0, h_k1, h_k2, h_k3, h_k4, h_k5, h_k6, h_k7, h_k8, h_k9, h_k10, h_k11, h_k12, h_k14, h_k16, h_k18, h_k20, h_k23, h_k24, h_k25, h_k32, h_k44, h_k48, h_k50, h_k54, h_k57, h_k58, h_k59, h_k60, h_k63, h_k97, h_k100, h_k122, h_k177, h_k255, h_k400, h_k450, h_k625, h_k649, h_k708, h_k800, h_k900, h_k2500, h_k22500, h_k45000, h_kn1, h_kn2, h_kJ, h_kU, h_eI, h_eL, h_eR, h_eT, h_b1, h_eZ, h_not, h_b2, h_b0, h_b0L, h_gI, h_gL, h_gN, h_gR, h_aI, h_aL, h_aR, h_aLen, h_tern, h_and, h_or, h_vN, h_vI, h_vJ, h_vA, h_cFv, h_cFs, h_toI, h_toL, h_toV, h_nO, h_nA, g_skip, g_brk, g_cnt, g_retV, g_seq, g_if, g_setI, g_setR, g_setL, g_inc, g_putI, g_putZ, g_putL, g_putR, g_upI, g_AI, g_AL, g_AR, g_UA, g_exp, g_retI, g_retL, g_retZ, g_scope, g_unBrk, g_sup, h_fn, argE_n, argE_i, argE_r, argE_l, argE_a, sto_0, sto_s, sto_n0, sto_ns, isL_i, isL_r, isL_n, isL_a, isL_l, isL_0, rcv_r, rcv_a, List.getElem?_cons_zero, List.getElem?_cons_succ, List.getElem?_nil, List.set_cons_zero, List.set_cons_succ, List.take_succ_cons, List.take_zero, List.take_nil, List.length_cons, List.length_nil, List.nil_append, List.cons_append, Nat.reduceAdd, Nat.reduceSub, Nat.reduceLT, Nat.reduceEqDiff, Nat.reduceLeDiff, Nat.zero_add, Nat.lt_irrefl, Nat.succ_sub_one, and_true, true_and, and_false, false_and, not_false_eq_true, not_true_eq_false, Bool.false_eq_true, Bool.not_true, Bool.not_false, Bool.not_eq_true', Bool.true_eq_false, decide_true, decide_false, decide_eq_true_eq, decide_eq_false_iff_not, Option.some.injEq, and_self, Nat.add_one_sub_one, Nat.lt_add_one, Nat.zero_lt_succ, Value.int.injEq, Value.ref.injEq, Value.long.injEq, exists_eq_left', exists_eq_left, Sum.inl.injEq, Sum.inr.injEq, i2z_b2i, n32_add, n32_mul, n32_inc, tg_pI, tg_pL, tg_pR, vr_pI, vr_pL, vl_pI, vl_pR, vi_pL, vi_pR, mN_pI, mN_pL, mN_pR, mU_pI, mU_pL, mU_pR, h.T.t, (h.Y td).r3, Option.isNone_some, h_of (mi _), h_of (m_refused (h.tT _ _) _)]
        exact no 2 (by decide)
  obtain ⟨v, m, h1, rfl, h2⟩ := h_ex key
  exact ⟨m, h1, h2⟩
end
