/-! A NEW CLASS OBJECT -/
noncomputable def li3 : List It := [iA 4 20 48 0, iA 4 20 2 1, iA 4 20 4 2, iA 4 20 4 3, iI 4 4 0]
noncomputable def g3S : Nat → qM → qM := fun c S => itR c li3 S
theorem csp3 : CSp f_X3_init 4 5 g3S := csp_of (b := b_X3_init) (l := li3) rfl ⟨iA_ok (by decide), iA_ok (by decide), iA_ok (by decide), iA_ok (by decide), iI_ok, trivial⟩
noncomputable def li4 : List It := [iI 5 0 0, iI 5 1 0, iI 5 2 0, iA 5 20 2 3, iI 5 4 0, iI 5 5 0, iA 5 20 8 6, iA 5 20 8 7, iA 5 20 8 8, iI 5 9 0, iA 5 20 8 10, iA 5 20 8 11, iI 5 12 0, iA 5 20 4 13, iA 5 20 4 14, iA 5 20 16 15, iI 5 16 0, iA 5 20 6 17, iA 5 20 6 18, iA 5 20 6 19]
noncomputable def g4S : Nat → qM → qM := fun c S => itR c li4 S
theorem csp4 : CSp f_X4_init 5 20 g4S := csp_of (b := b_X4_init) (l := li4) rfl ⟨iI_ok, iI_ok, iI_ok, iA_ok (by decide), iI_ok, iI_ok, iA_ok (by decide), iA_ok (by decide), iA_ok (by decide), iI_ok, iA_ok (by decide), iA_ok (by decide), iI_ok, iA_ok (by decide), iA_ok (by decide), iA_ok (by decide), iI_ok, iA_ok (by decide), iA_ok (by decide), iA_ok (by decide), trivial⟩
noncomputable def li5 : List It := [iA 6 22 0 0, iI 6 1 0, iI 6 2 0, iI 6 3 0, iI 6 4 0, iJ 6 5 0, iI 6 6 0, iI 6 7 0, iO 6 8 5 20 f_X4_init g4S, iO 6 9 4 5 f_X3_init g3S, iA 6 21 14 10, iA 6 20 14 11, iA 6 20 14 12, iI 6 13 0, iZ 6 14 0, iI 6 15 0, iI 6 16 0, iI 6 17 0, iI 6 18 0, iI 6 19 (-1)]
noncomputable def g5S : Nat → qM → qM := fun c S => itR c li5 S
theorem csp5 : CSp f_X5_init 6 20 g5S := csp_of (b := b_X5_init) (l := li5) rfl ⟨iA_ok (by decide), iI_ok, iI_ok, iI_ok, iI_ok, iJ_ok, iI_ok, iI_ok, iO_ok csp4, iO_ok csp3, iA_ok (by decide), iA_ok (by decide), iA_ok (by decide), iI_ok, iZ_ok (by decide), iI_ok, iI_ok, iI_ok, iI_ok, iI_ok, trivial⟩
noncomputable def li7 : List It := [iA 8 20 8 0, iA 8 20 2 1, iA 8 20 2500 2, iA 8 20 25 3, iI 8 4 0]
noncomputable def g7S : Nat → qM → qM := fun c S => itR c li7 S
theorem csp7 : CSp f_X7_init 8 5 g7S := csp_of (b := b_X7_init) (l := li7) rfl ⟨iA_ok (by decide), iA_ok (by decide), iA_ok (by decide), iA_ok (by decide), iI_ok, trivial⟩
noncomputable def li1 : List It := [iO 2 0 8 5 f_X7_init g7S, iA 2 20 450 1, iA 2 20 18 2, iA 2 23 18 3]
noncomputable def g1S : Nat → qM → qM := fun c S => itR c li1 S
theorem csp1 : CSp f_X1_init 2 4 g1S := csp_of (b := b_X1_init) (l := li1) rfl ⟨iO_ok csp7, iA_ok (by decide), iA_ok (by decide), iA_ok (by decide), trivial⟩
noncomputable def li0 : List It := [iZ 1 0 0, iI 1 1 0, iI 1 2 0, iI 1 3 0, iI 1 4 0, iA 1 20 48 5, iA 1 20 4 6, iI 1 7 0, iZ 1 8 0]
noncomputable def g0S : Nat → qM → qM := fun c S => itR c li0 S
theorem csp0 : CSp f_X0_init 1 9 g0S := csp_of (b := b_X0_init) (l := li0) rfl ⟨iZ_ok (by decide), iI_ok, iI_ok, iI_ok, iI_ok, iA_ok (by decide), iA_ok (by decide), iI_ok, iZ_ok (by decide), trivial⟩
noncomputable def li6 : List It := [iA 7 21 800 0, iA 7 21 800 1, iA 7 21 400 2]
noncomputable def g6S : Nat → qM → qM := fun c S => itR c li6 S
theorem csp6 : CSp f_X6_init 7 3 g6S := csp_of (b := b_X6_init) (l := li6) rfl ⟨iA_ok (by decide), iA_ok (by decide), iA_ok (by decide), trivial⟩
noncomputable def li2 : List It := [iA 3 20 24 0, iA 3 20 24 1, iA 3 21 25 2]
noncomputable def g2S : Nat → qM → qM := fun c S => itR c li2 S
theorem csp2 : CSp f_X2_init 3 3 g2S := csp_of (b := b_X2_init) (l := li2) rfl ⟨iA_ok (by decide), iA_ok (by decide), iA_ok (by decide), trivial⟩
noncomputable def li8 : List It := [iA 9 22 900 0, iI 9 1 0, iO 9 2 6 20 f_X5_init g5S, iO 9 3 5 20 f_X4_init g4S, iO 9 4 4 5 f_X3_init g3S, iZ 9 5 0, iI 9 6 0, iA 9 24 12 7, iI 9 8 0, iA 9 24 3 9, iI 9 10 0, iO 9 11 2 4 f_X1_init g1S, iO 9 12 1 9 f_X0_init g0S, iO 9 13 7 3 f_X6_init g6S, iO 9 14 3 3 f_X2_init g2S]
theorem li8_ok : itA 9 li8 := ⟨iA_ok (by decide), iI_ok, iO_ok csp5, iO_ok csp4, iO_ok csp3, iZ_ok (by decide), iI_ok, iA_ok (by decide), iI_ok, iA_ok (by decide), iI_ok, iO_ok csp1, iO_ok csp0, iO_ok csp6, iO_ok csp2, trivial⟩
def cE0 : qM := ((0, 0), fun _ => (0, 0), fun _ _ => 0, fun _ _ => 0, fun _ _ => none)
noncomputable def cS0 : qM := mk1 cE0 9 15
noncomputable def cS1 : qM := itR 0 li8 cS0
noncomputable def itL (A : Nat) : Nat → qM → qM
  | 0, S => S
  | i + 1, S => pR (g3S (mN (itL A i S)) (mk1 (itL A i S) 4 5)) A i (some (mN (itL A i S)))
noncomputable def cS2 : qM := itL 43 12 cS1
noncomputable def cS3 : qM := itL 44 3 cS2
noncomputable def lpS (f : Nat) (k : Int32) : Sv := (sScope 1 (sSeq (sSetI 1 (eK (0 : Int32))) (sLoop (b2 iLt (eI 1) (eK k)) (sAR (gR 9 f (eR 0)) (eI 1) (nO 4 5 f_X3_init)) (sInc 1 (1)))))
theorem x8_eq : b_X8_init = sSeq sSup (itC (sSeq (sSeq (lpS 7 12) (lpS 9 3)) sRetV) li8) := rfl
section
variable {B : Nat} {M m S : qM}
theorem m_lpS (R : Rl B M m S) {f A N : Nat} {k32 : Int32} (hk : k32 = n32 N) (hN : N < 1000) (hv : ∀ i, i ≤ N → tg (itL A i S) 0 = (9, 15) ∧ tg (itL A i S) A = (24, N) ∧ vr (itL A i S) 0 f = some A ∧ 0 < mN (itL A i S) ∧ A < mN (itL A i S)) : hS (lpS f k32) [.ref B] m (fun r e m' => r = .inl 0 ∧ e = [.ref B] ∧ Rl B M m' (itL A N S)) () := by
  subst hk
  unfold lpS
  simp only [hR_d, hT_d, hI_t, hI_f, hVI_s, hVL_s, hVR_s, hVT_s, hVV_s, hO_s, hB_0, hB_1, hB_2, hB_r, hU_0, hU_1, hU_2, hU_r, hX_r, hL_0, hL_1, hL_2, hL_r, hC_s, h_k0, h_k1, h_k2, h_k3, h_k4, h_k5, h_k6, h_k7, h_k8, h_k9, h_k10, h_k11, h_k12, h_k14, h_k16, h_k18, h_k20, h_k23, h_k24, h_k25, h_k32, h_k44, h_k48, h_k50, h_k54, h_k57, h_k58, h_k59, h_k60, h_k63, h_k97, h_k100, h_k122, h_k177, h_k255, h_k400, h_k450, h_k625, h_k649, h_k708, h_k800, h_k900, h_k2500, h_k22500, h_k45000, h_kn1, h_kn2, h_kJ, h_kU, h_eI, h_eL, h_eR, h_eT, h_b1, h_eZ, h_not, h_b2, h_b0, h_b0L, h_gI, h_gL, h_gN, h_gR, h_aI, h_aL, h_aR, h_aLen, h_tern, h_and, h_or, h_vN, h_vI, h_vJ, h_vA, h_cFv, h_cFs, h_toI, h_toL, h_toV, h_nO, h_nA, g_skip, g_brk, g_cnt, g_retV, g_seq, g_if, g_setI, g_setR, g_setL, g_inc, g_putI, g_putZ, g_putL, g_putR, g_upI, g_AI, g_AL, g_AR, g_UA, g_exp, g_retI, g_retL, g_retZ, g_scope, g_unBrk, g_sup, h_fn, argE_n, argE_i, argE_r, argE_l, argE_a, sto_0, sto_s, sto_n0, sto_ns, isL_i, isL_r, isL_n, isL_a, isL_l, isL_0, rcv_r, rcv_a, List.getElem?_cons_zero, List.getElem?_cons_succ, List.getElem?_nil, List.set_cons_zero, List.set_cons_succ, List.take_succ_cons, List.take_zero, List.take_nil, List.length_cons, List.length_nil, List.nil_append, List.cons_append, Nat.reduceAdd, Nat.reduceSub, Nat.reduceLT, Nat.reduceEqDiff, Nat.reduceLeDiff, Nat.zero_add, Nat.lt_irrefl, Nat.succ_sub_one, and_true, true_and, and_false, false_and, not_false_eq_true, not_true_eq_false, Bool.false_eq_true, Bool.not_true, Bool.not_false, Bool.not_eq_true', Bool.true_eq_false, decide_true, decide_false, decide_eq_true_eq, decide_eq_false_iff_not, Option.some.injEq, and_self, Nat.add_one_sub_one, Nat.lt_add_one, Nat.zero_lt_succ, Value.int.injEq, Value.ref.injEq, Value.long.injEq, exists_eq_left', exists_eq_left, Sum.inl.injEq, Sum.inr.injEq, i2z_b2i, h_vS, h_kN]
  refine h_up (fun i e m' => e = [.ref B, .int (n32 i)] ∧ Rl B M m' (itL A i S)) N ⟨rfl, R⟩ ?_ ?_
  · rintro i e m1 hi ⟨rfl, R1⟩
    obtain ⟨v1, v2, v3, v4, v5⟩ := hv i (by omega)
    have nn := R1.n
    have t0 : tg m1 B = (9, 15) := (R1.t 0 v4).trans v1
    have tA : tg m1 (B + A) = (24, N) := (R1.t A v5).trans v2
    have r0 : vr m1 B f = some (B + A) := (R1.r 0 v4 f).trans (by rw [v3]; rfl)
    obtain ⟨m2, e2, R2, n2, t2⟩ := csp3 B M (mk1 m1 4 5) (mk1 (itL A i S) 4 5) (mN (itL A i S)) (R1.mk 4 5) (by rw [tg_mk1, if_pos rfl]) (by rw [mN_mk1]; omega)
    rw [mN_mk1] at n2 t2
    have tA2 : tg m2 (B + A) = (24, N) := by rw [R2.t A (by omega), t2 A (by omega), tg_mk1, if_neg (by omega)]; exact v2
    have tN2 : tg m2 (B + mN (itL A i S)) = (4, 5) := by rw [R2.t _ (by omega), t2 _ (by omega), tg_mk1, if_pos rfl]
    simp (disch := omega) only [hR_d, hT_d, hI_t, hI_f, hVI_s, hVL_s, hVR_s, hVT_s, hVV_s, hO_s, hB_0, hB_1, hB_2, hB_r, hU_0, hU_1, hU_2, hU_r, hX_r, hL_0, hL_1, hL_2, hL_r, hC_s, h_k0, h_k1, h_k2, h_k3, h_k4, h_k5, h_k6, h_k7, h_k8, h_k9, h_k10, h_k11, h_k12, h_k14, h_k16, h_k18, h_k20, h_k23, h_k24, h_k25, h_k32, h_k44, h_k48, h_k50, h_k54, h_k57, h_k58, h_k59, h_k60, h_k63, h_k97, h_k100, h_k122, h_k177, h_k255, h_k400, h_k450, h_k625, h_k649, h_k708, h_k800, h_k900, h_k2500, h_k22500, h_k45000, h_kn1, h_kn2, h_kJ, h_kU, h_eI, h_eL, h_eR, h_eT, h_b1, h_eZ, h_not, h_b2, h_b0, h_b0L, h_gI, h_gL, h_gN, h_gR, h_aI, h_aL, h_aR, h_aLen, h_tern, h_and, h_or, h_vN, h_vI, h_vJ, h_vA, h_cFv, h_cFs, h_toI, h_toL, h_toV, h_nO, h_nA, g_skip, g_brk, g_cnt, g_retV, g_seq, g_if, g_setI, g_setR, g_setL, g_inc, g_putI, g_putZ, g_putL, g_putR, g_upI, g_AI, g_AL, g_AR, g_UA, g_exp, g_retI, g_retL, g_retZ, g_scope, g_unBrk, g_sup, h_fn, argE_n, argE_i, argE_r, argE_l, argE_a, sto_0, sto_s, sto_n0, sto_ns, isL_i, isL_r, isL_n, isL_a, isL_l, isL_0, rcv_r, rcv_a, List.getElem?_cons_zero, List.getElem?_cons_succ, List.getElem?_nil, List.set_cons_zero, List.set_cons_succ, List.take_succ_cons, List.take_zero, List.take_nil, List.length_cons, List.length_nil, List.nil_append, List.cons_append, Nat.reduceAdd, Nat.reduceSub, Nat.reduceLT, Nat.reduceEqDiff, Nat.reduceLeDiff, Nat.zero_add, Nat.lt_irrefl, Nat.succ_sub_one, and_true, true_and, and_false, false_and, not_false_eq_true, not_true_eq_false, Bool.false_eq_true, Bool.not_true, Bool.not_false, Bool.not_eq_true', Bool.true_eq_false, decide_true, decide_false, decide_eq_true_eq, decide_eq_false_iff_not, Option.some.injEq, and_self, Nat.add_one_sub_one, Nat.lt_add_one, Nat.zero_lt_succ, Value.int.injEq, Value.ref.injEq, Value.long.injEq, exists_eq_left', exists_eq_left, Sum.inl.injEq, Sum.inr.injEq, i2z_b2i, h_vS, h_kN, h_eK, n32_add, n32_mul, n32_inc, n_iEq, n_iNe, n_iLt, n_iLe, n_iGt, n_iGe, n_zEq, n_zLt, n_zLe, n_zGt, n_zGe, n_inb, n32_clamp, t0, r0, nn, h_of e2, tA2, tN2, hi]
    exact R2.pR A i (mN (itL A i S))
  · rintro e m1 ⟨rfl, R1⟩
    simp (disch := omega) only [hR_d, hT_d, hI_t, hI_f, hVI_s, hVL_s, hVR_s, hVT_s, hVV_s, hO_s, hB_0, hB_1, hB_2, hB_r, hU_0, hU_1, hU_2, hU_r, hX_r, hL_0, hL_1, hL_2, hL_r, hC_s, h_k0, h_k1, h_k2, h_k3, h_k4, h_k5, h_k6, h_k7, h_k8, h_k9, h_k10, h_k11, h_k12, h_k14, h_k16, h_k18, h_k20, h_k23, h_k24, h_k25, h_k32, h_k44, h_k48, h_k50, h_k54, h_k57, h_k58, h_k59, h_k60, h_k63, h_k97, h_k100, h_k122, h_k177, h_k255, h_k400, h_k450, h_k625, h_k649, h_k708, h_k800, h_k900, h_k2500, h_k22500, h_k45000, h_kn1, h_kn2, h_kJ, h_kU, h_eI, h_eL, h_eR, h_eT, h_b1, h_eZ, h_not, h_b2, h_b0, h_b0L, h_gI, h_gL, h_gN, h_gR, h_aI, h_aL, h_aR, h_aLen, h_tern, h_and, h_or, h_vN, h_vI, h_vJ, h_vA, h_cFv, h_cFs, h_toI, h_toL, h_toV, h_nO, h_nA, g_skip, g_brk, g_cnt, g_retV, g_seq, g_if, g_setI, g_setR, g_setL, g_inc, g_putI, g_putZ, g_putL, g_putR, g_upI, g_AI, g_AL, g_AR, g_UA, g_exp, g_retI, g_retL, g_retZ, g_scope, g_unBrk, g_sup, h_fn, argE_n, argE_i, argE_r, argE_l, argE_a, sto_0, sto_s, sto_n0, sto_ns, isL_i, isL_r, isL_n, isL_a, isL_l, isL_0, rcv_r, rcv_a, List.getElem?_cons_zero, List.getElem?_cons_succ, List.getElem?_nil, List.set_cons_zero, List.set_cons_succ, List.take_succ_cons, List.take_zero, List.take_nil, List.length_cons, List.length_nil, List.nil_append, List.cons_append, Nat.reduceAdd, Nat.reduceSub, Nat.reduceLT, Nat.reduceEqDiff, Nat.reduceLeDiff, Nat.zero_add, Nat.lt_irrefl, Nat.succ_sub_one, and_true, true_and, and_false, false_and, not_false_eq_true, not_true_eq_false, Bool.false_eq_true, Bool.not_true, Bool.not_false, Bool.not_eq_true', Bool.true_eq_false, decide_true, decide_false, decide_eq_true_eq, decide_eq_false_iff_not, Option.some.injEq, and_self, Nat.add_one_sub_one, Nat.lt_add_one, Nat.zero_lt_succ, Value.int.injEq, Value.ref.injEq, Value.long.injEq, exists_eq_left', exists_eq_left, Sum.inl.injEq, Sum.inr.injEq, i2z_b2i, h_vS, h_kN, h_eK, n32_add, n32_mul, n32_inc, n_iEq, n_iNe, n_iLt, n_iLe, n_iGt, n_iGe, n_zEq, n_zLt, n_zLe, n_zGt, n_zGe, n_inb, n32_clamp]
    exact R1
end
theorem cl1 : ∀ i : Fin 13, tg (itL 43 i cS1) 0 = (9, 15) ∧ tg (itL 43 i cS1) 43 = (24, 12) ∧ vr (itL 43 i cS1) 0 7 = some 43 ∧ 0 < mN (itL 43 i cS1) ∧ 43 < mN (itL 43 i cS1) := by decide +kernel
theorem cl2 : ∀ i : Fin 4, tg (itL 44 i cS2) 0 = (9, 15) ∧ tg (itL 44 i cS2) 44 = (24, 3) ∧ vr (itL 44 i cS2) 0 9 = some 44 ∧ 0 < mN (itL 44 i cS2) ∧ 44 < mN (itL 44 i cS2) := by decide +kernel
theorem cl3 : mN cS3 = 140 ∧ mU cS3 ≤ 20000 := by decide +kernel
