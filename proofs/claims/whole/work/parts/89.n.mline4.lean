/-! THE REFERENCE'S READER: notes -/
noncomputable def ntIf : Sv := (sIf (cAnd (cNot (b1 i2z (eI 1))) (cNot (b1 i2z (toI (cFv 11 f_X10_isWord (vS (vA vN (eR 0)) (eK 25))))))) (sExp (toV (cFv 11 f_X10_flaw (vI (vA vN (eR 0)) (eK (1 : Int32)))))) sSkip)
noncomputable def ntN : Ev Nat := (tern (b1 i2z (eI 1)) (eK 25) (eK 26))
noncomputable def ntZ : Ev Int32 := (tern (b1 i2z (eI 1)) (eK (1 : Int32)) (eK (0 : Int32)))
theorem mnt_eq : b_X10_readNote = (sSeq (sScope 1 (sSeq (sExp (toV (cFv 11 f_X10_begins (vI (vI (vA vN (eR 0)) (gI 10 5 (gR 11 4 (eR 0)))) (eK (6 : Int32)))))) (sSeq (sSetI 1 (toI (cFv 11 f_X10_isWord (vS (vA vN (eR 0)) (eK 26))))) (sSeq ntIf (sSeq (sExp (toV (cFv 11 f_X10_goesOn (vA vN (eR 0))))) (sSeq (sSetI 2 (toI (cFv 11 f_X10_readWhole (vI (vI (vA vN (eR 0)) (eK (0 : Int32))) (eK (23 : Int32)))))) (sSeq (sExp (toV (cFv 11 f_X10_needs (vS (vA vN (eR 0)) (eK 31))))) (sSeq (sExp (toV (cFv 11 f_X10_needs (vS (vA vN (eR 0)) ntN)))) (sSeq (sSetI 3 (toI (cFv 11 f_X10_readWhole (vI (vI (vA vN (eR 0)) (eK (0 : Int32))) (eK (23 : Int32)))))) (sSeq (sIf (b2 iEq (gI 11 9 (eR 0)) (eK (5 : Int32))) sRetV sSkip) (sSeq (sAI 20 (gR 10 24 (gR 11 4 (eR 0))) (gI 10 5 (gR 11 4 (eR 0))) ntZ) (sSeq (sAI 20 (gR 10 25 (gR 11 4 (eR 0))) (gI 10 5 (gR 11 4 (eR 0))) (eI 2)) (sSeq (sAI 20 (gR 10 26 (gR 11 4 (eR 0))) (gI 10 5 (gR 11 4 (eR 0))) (eI 3)) (sUpI 10 5 (gR 11 4 (eR 0)) (fun x y => x + y) (eK (1 : Int32)))))))))))))))) sRetV) := rfl
theorem nt_N {e : qE} {M : qM} {b : Bool} (h : e[1]? = some (.int (b2i b))) (Q : Nat → qM → Prop) (u : Hd (ntN, Q)) : hE ntN e M Q u = hR (if b = true then 25 else 26) M Q () := by
  show hE ntN e M Q () = _
  unfold ntN
  cases b <;> simp only [hR_d, hT_d, hI_t, hI_f, hVI_s, hVL_s, hVR_s, hVT_s, hVV_s, hO_s, hB_0, hB_1, hB_2, hB_r, hU_0, hU_1, hU_2, hU_r, hX_r, hL_0, hL_1, hL_2, hL_r, hC_s, h_k0, h_k1, h_k2, h_k3, h_k4, h_k5, h_k6, h_k7, h_k8, h_k9, h_k10, h_k11, h_k12, h_k14, h_k16, h_k18, h_k20, h_k23, h_k24, h_k25, h_k32, h_k44, h_k48, h_k50, h_k54, h_k57, h_k58, h_k59, h_k60, h_k63, h_k97, h_k100, h_k122, h_k177, h_k255, h_k400, h_k450, h_k625, h_k649, h_k708, h_k800, h_k900, h_k2500, h_k22500, h_k45000, h_kn1, h_kn2, h_kJ, h_kU, h_eI, h_eL, h_eR, h_eT, h_b1, h_eZ, h_not, h_b2, h_b0, h_b0L, h_gI, h_gL, h_gN, h_gR, h_aI, h_aL, h_aR, h_aLen, h_tern, h_and, h_or, h_vN, h_vI, h_vJ, h_vA, h_cFv, h_cFs, h_toI, h_toL, h_toV, h_nO, h_nA, g_skip, g_brk, g_cnt, g_retV, g_seq, g_if, g_setI, g_setR, g_setL, g_inc, g_putI, g_putZ, g_putL, g_putR, g_upI, g_AI, g_AL, g_AR, g_UA, g_exp, g_retI, g_retL, g_retZ, g_scope, g_unBrk, g_sup, h_fn, argE_n, argE_i, argE_r, argE_l, argE_a, sto_0, sto_s, sto_n0, sto_ns, isL_i, isL_r, isL_n, isL_a, isL_l, isL_0, rcv_r, rcv_a, List.getElem?_cons_zero, List.getElem?_cons_succ, List.getElem?_nil, List.set_cons_zero, List.set_cons_succ, List.take_succ_cons, List.take_zero, List.take_nil, List.length_cons, List.length_nil, List.nil_append, List.cons_append, Nat.reduceAdd, Nat.reduceSub, Nat.reduceLT, Nat.reduceEqDiff, Nat.reduceLeDiff, Nat.zero_add, Nat.lt_irrefl, Nat.succ_sub_one, and_true, true_and, and_false, false_and, not_false_eq_true, not_true_eq_false, Bool.false_eq_true, Bool.not_true, Bool.not_false, Bool.not_eq_true', Bool.true_eq_false, decide_true, decide_false, decide_eq_true_eq, decide_eq_false_iff_not, Option.some.injEq, and_self, Nat.add_one_sub_one, Nat.lt_add_one, Nat.zero_lt_succ, Value.int.injEq, Value.ref.injEq, Value.long.injEq, exists_eq_left', exists_eq_left, Sum.inl.injEq, Sum.inr.injEq, i2z_b2i, h_vS, h_kN, h, if_true, if_false]
theorem nt_Z {e : qE} {M : qM} {b : Bool} (h : e[1]? = some (.int (b2i b))) (Q : Int32 → qM → Prop) (u : Hd (ntZ, Q)) : hE ntZ e M Q u = hR (n32 (if b = true then 1 else 0)) M Q () := by
  show hE ntZ e M Q () = _
  unfold ntZ
  cases b <;> simp only [hR_d, hT_d, hI_t, hI_f, hVI_s, hVL_s, hVR_s, hVT_s, hVV_s, hO_s, hB_0, hB_1, hB_2, hB_r, hU_0, hU_1, hU_2, hU_r, hX_r, hL_0, hL_1, hL_2, hL_r, hC_s, h_k0, h_k1, h_k2, h_k3, h_k4, h_k5, h_k6, h_k7, h_k8, h_k9, h_k10, h_k11, h_k12, h_k14, h_k16, h_k18, h_k20, h_k23, h_k24, h_k25, h_k32, h_k44, h_k48, h_k50, h_k54, h_k57, h_k58, h_k59, h_k60, h_k63, h_k97, h_k100, h_k122, h_k177, h_k255, h_k400, h_k450, h_k625, h_k649, h_k708, h_k800, h_k900, h_k2500, h_k22500, h_k45000, h_kn1, h_kn2, h_kJ, h_kU, h_eI, h_eL, h_eR, h_eT, h_b1, h_eZ, h_not, h_b2, h_b0, h_b0L, h_gI, h_gL, h_gN, h_gR, h_aI, h_aL, h_aR, h_aLen, h_tern, h_and, h_or, h_vN, h_vI, h_vJ, h_vA, h_cFv, h_cFs, h_toI, h_toL, h_toV, h_nO, h_nA, g_skip, g_brk, g_cnt, g_retV, g_seq, g_if, g_setI, g_setR, g_setL, g_inc, g_putI, g_putZ, g_putL, g_putR, g_upI, g_AI, g_AL, g_AR, g_UA, g_exp, g_retI, g_retL, g_retZ, g_scope, g_unBrk, g_sup, h_fn, argE_n, argE_i, argE_r, argE_l, argE_a, sto_0, sto_s, sto_n0, sto_ns, isL_i, isL_r, isL_n, isL_a, isL_l, isL_0, rcv_r, rcv_a, List.getElem?_cons_zero, List.getElem?_cons_succ, List.getElem?_nil, List.set_cons_zero, List.set_cons_succ, List.take_succ_cons, List.take_zero, List.take_nil, List.length_cons, List.length_nil, List.nil_append, List.cons_append, Nat.reduceAdd, Nat.reduceSub, Nat.reduceLT, Nat.reduceEqDiff, Nat.reduceLeDiff, Nat.zero_add, Nat.lt_irrefl, Nat.succ_sub_one, and_true, true_and, and_false, false_and, not_false_eq_true, not_true_eq_false, Bool.false_eq_true, Bool.not_true, Bool.not_false, Bool.not_eq_true', Bool.true_eq_false, decide_true, decide_false, decide_eq_true_eq, decide_eq_false_iff_not, Option.some.injEq, and_self, Nat.add_one_sub_one, Nat.lt_add_one, Nat.zero_lt_succ, Value.int.injEq, Value.ref.injEq, Value.long.injEq, exists_eq_left', exists_eq_left, Sum.inl.injEq, Sum.inr.injEq, i2z_b2i, h_vS, h_kN, h, if_true, if_false]
section
variable {M : qM} {X C n q : Nat} {tp : Nat → Int32} {σ : Pr Nat} {p : Pl} {lo : Lo} {nm : Nm} {fl : Fl}
theorem isW_56 (a : isW tp n q 5 = true) (b : isW tp n q 6 = true) : False := by
  unfold isW at a b
  simp only [Bool.and_eq_true, decide_eq_true_eq] at a b
  exact absurd (a.2.symm.trans b.2) (by decide +kernel)
theorem isWs_20 {i j : Nat} (hi : i = 20 + j) (hj : j < 20) : isWs tp n σ i = isWs tp n σ j := by
  cases σ with
  | inl e => rfl
  | inr q => exact isW_20 hi hj
theorem m_ntIf (h : MB M X C n tp) (s : MS M X tp n σ) : ∃ M', XF M M' X ∧ MS M' X tp n (fwS tp n 1 (!isWs tp n σ 6 && !isWs tp n σ 5) σ) ∧ ∀ (Q : Re → qE → qM → Prop) (u : Hd (ntIf, Q)), hS ntIf [.ref X, .int (b2i (isWs tp n σ 6))] M Q u = Q (.inl 0) [.ref X, .int (b2i (isWs tp n σ 6))] M' := by
  have w := m_isW h s (i := 25) (by decide)
  rw [isWs_20 (j := 5) rfl (by decide)] at w
  generalize isWs tp n σ 6 = b6 at *
  generalize isWs tp n σ 5 = b5 at *
  cases b6
  · cases b5
    · obtain ⟨M1, e1, f1, s1⟩ := m_flaw h s 1
      refine ⟨M1, f1, s1, fun Q u => ?_⟩
      show hS ntIf _ M Q () = _
      unfold ntIf
      simp (disch := omega) only [hR_d, hT_d, hI_t, hI_f, hVI_s, hVL_s, hVR_s, hVT_s, hVV_s, hO_s, hB_0, hB_1, hB_2, hB_r, hU_0, hU_1, hU_2, hU_r, hX_r, hL_0, hL_1, hL_2, hL_r, hC_s, h_k0, h_k1, h_k2, h_k3, h_k4, h_k5, h_k6, h_k7, h_k8, h_k9, h_k10, h_k11, h_k12, h_k14, h_k16, h_k18, h_k20, h_k23, h_k24, h_k25, h_k32, h_k44, h_k48, h_k50, h_k54, h_k57, h_k58, h_k59, h_k60, h_k63, h_k97, h_k100, h_k122, h_k177, h_k255, h_k400, h_k450, h_k625, h_k649, h_k708, h_k800, h_k900, h_k2500, h_k22500, h_k45000, h_kn1, h_kn2, h_kJ, h_kU, h_eI, h_eL, h_eR, h_eT, h_b1, h_eZ, h_not, h_b2, h_b0, h_b0L, h_gI, h_gL, h_gN, h_gR, h_aI, h_aL, h_aR, h_aLen, h_tern, h_and, h_or, h_vN, h_vI, h_vJ, h_vA, h_cFv, h_cFs, h_toI, h_toL, h_toV, h_nO, h_nA, g_skip, g_brk, g_cnt, g_retV, g_seq, g_if, g_setI, g_setR, g_setL, g_inc, g_putI, g_putZ, g_putL, g_putR, g_upI, g_AI, g_AL, g_AR, g_UA, g_exp, g_retI, g_retL, g_retZ, g_scope, g_unBrk, g_sup, h_fn, argE_n, argE_i, argE_r, argE_l, argE_a, sto_0, sto_s, sto_n0, sto_ns, isL_i, isL_r, isL_n, isL_a, isL_l, isL_0, rcv_r, rcv_a, List.getElem?_cons_zero, List.getElem?_cons_succ, List.getElem?_nil, List.set_cons_zero, List.set_cons_succ, List.take_succ_cons, List.take_zero, List.take_nil, List.length_cons, List.length_nil, List.nil_append, List.cons_append, Nat.reduceAdd, Nat.reduceSub, Nat.reduceLT, Nat.reduceEqDiff, Nat.reduceLeDiff, Nat.zero_add, Nat.lt_irrefl, Nat.succ_sub_one, and_true, true_and, and_false, false_and, not_false_eq_true, not_true_eq_false, Bool.false_eq_true, Bool.not_true, Bool.not_false, Bool.not_eq_true', Bool.true_eq_false, decide_true, decide_false, decide_eq_true_eq, decide_eq_false_iff_not, Option.some.injEq, and_self, Nat.add_one_sub_one, Nat.lt_add_one, Nat.zero_lt_succ, Value.int.injEq, Value.ref.injEq, Value.long.injEq, exists_eq_left', exists_eq_left, Sum.inl.injEq, Sum.inr.injEq, i2z_b2i, h_vS, h_kN, n32_add, n32_mul, n32_inc, n_iEq, n_iNe, n_iLt, n_iLe, n_iGt, n_iGe, n_zEq, n_zLt, n_zLe, n_zGt, n_zGe, n_inb, n32_clamp, h.T.t, h_of w, h_of e1]
    · refine ⟨M, XF.refl _ _, s, fun Q u => ?_⟩
      show hS ntIf _ M Q () = _
      unfold ntIf
      simp (disch := omega) only [hR_d, hT_d, hI_t, hI_f, hVI_s, hVL_s, hVR_s, hVT_s, hVV_s, hO_s, hB_0, hB_1, hB_2, hB_r, hU_0, hU_1, hU_2, hU_r, hX_r, hL_0, hL_1, hL_2, hL_r, hC_s, h_k0, h_k1, h_k2, h_k3, h_k4, h_k5, h_k6, h_k7, h_k8, h_k9, h_k10, h_k11, h_k12, h_k14, h_k16, h_k18, h_k20, h_k23, h_k24, h_k25, h_k32, h_k44, h_k48, h_k50, h_k54, h_k57, h_k58, h_k59, h_k60, h_k63, h_k97, h_k100, h_k122, h_k177, h_k255, h_k400, h_k450, h_k625, h_k649, h_k708, h_k800, h_k900, h_k2500, h_k22500, h_k45000, h_kn1, h_kn2, h_kJ, h_kU, h_eI, h_eL, h_eR, h_eT, h_b1, h_eZ, h_not, h_b2, h_b0, h_b0L, h_gI, h_gL, h_gN, h_gR, h_aI, h_aL, h_aR, h_aLen, h_tern, h_and, h_or, h_vN, h_vI, h_vJ, h_vA, h_cFv, h_cFs, h_toI, h_toL, h_toV, h_nO, h_nA, g_skip, g_brk, g_cnt, g_retV, g_seq, g_if, g_setI, g_setR, g_setL, g_inc, g_putI, g_putZ, g_putL, g_putR, g_upI, g_AI, g_AL, g_AR, g_UA, g_exp, g_retI, g_retL, g_retZ, g_scope, g_unBrk, g_sup, h_fn, argE_n, argE_i, argE_r, argE_l, argE_a, sto_0, sto_s, sto_n0, sto_ns, isL_i, isL_r, isL_n, isL_a, isL_l, isL_0, rcv_r, rcv_a, List.getElem?_cons_zero, List.getElem?_cons_succ, List.getElem?_nil, List.set_cons_zero, List.set_cons_succ, List.take_succ_cons, List.take_zero, List.take_nil, List.length_cons, List.length_nil, List.nil_append, List.cons_append, Nat.reduceAdd, Nat.reduceSub, Nat.reduceLT, Nat.reduceEqDiff, Nat.reduceLeDiff, Nat.zero_add, Nat.lt_irrefl, Nat.succ_sub_one, and_true, true_and, and_false, false_and, not_false_eq_true, not_true_eq_false, Bool.false_eq_true, Bool.not_true, Bool.not_false, Bool.not_eq_true', Bool.true_eq_false, decide_true, decide_false, decide_eq_true_eq, decide_eq_false_iff_not, Option.some.injEq, and_self, Nat.add_one_sub_one, Nat.lt_add_one, Nat.zero_lt_succ, Value.int.injEq, Value.ref.injEq, Value.long.injEq, exists_eq_left', exists_eq_left, Sum.inl.injEq, Sum.inr.injEq, i2z_b2i, h_vS, h_kN, n32_add, n32_mul, n32_inc, n_iEq, n_iNe, n_iLt, n_iLe, n_iGt, n_iGe, n_zEq, n_zLt, n_zLe, n_zGt, n_zGe, n_inb, n32_clamp, h.T.t, h_of w]
  · refine ⟨M, XF.refl _ _, ?_, fun Q u => ?_⟩
    · exact s
    show hS ntIf _ M Q () = _
    unfold ntIf
    simp (disch := omega) only [hR_d, hT_d, hI_t, hI_f, hVI_s, hVL_s, hVR_s, hVT_s, hVV_s, hO_s, hB_0, hB_1, hB_2, hB_r, hU_0, hU_1, hU_2, hU_r, hX_r, hL_0, hL_1, hL_2, hL_r, hC_s, h_k0, h_k1, h_k2, h_k3, h_k4, h_k5, h_k6, h_k7, h_k8, h_k9, h_k10, h_k11, h_k12, h_k14, h_k16, h_k18, h_k20, h_k23, h_k24, h_k25, h_k32, h_k44, h_k48, h_k50, h_k54, h_k57, h_k58, h_k59, h_k60, h_k63, h_k97, h_k100, h_k122, h_k177, h_k255, h_k400, h_k450, h_k625, h_k649, h_k708, h_k800, h_k900, h_k2500, h_k22500, h_k45000, h_kn1, h_kn2, h_kJ, h_kU, h_eI, h_eL, h_eR, h_eT, h_b1, h_eZ, h_not, h_b2, h_b0, h_b0L, h_gI, h_gL, h_gN, h_gR, h_aI, h_aL, h_aR, h_aLen, h_tern, h_and, h_or, h_vN, h_vI, h_vJ, h_vA, h_cFv, h_cFs, h_toI, h_toL, h_toV, h_nO, h_nA, g_skip, g_brk, g_cnt, g_retV, g_seq, g_if, g_setI, g_setR, g_setL, g_inc, g_putI, g_putZ, g_putL, g_putR, g_upI, g_AI, g_AL, g_AR, g_UA, g_exp, g_retI, g_retL, g_retZ, g_scope, g_unBrk, g_sup, h_fn, argE_n, argE_i, argE_r, argE_l, argE_a, sto_0, sto_s, sto_n0, sto_ns, isL_i, isL_r, isL_n, isL_a, isL_l, isL_0, rcv_r, rcv_a, List.getElem?_cons_zero, List.getElem?_cons_succ, List.getElem?_nil, List.set_cons_zero, List.set_cons_succ, List.take_succ_cons, List.take_zero, List.take_nil, List.length_cons, List.length_nil, List.nil_append, List.cons_append, Nat.reduceAdd, Nat.reduceSub, Nat.reduceLT, Nat.reduceEqDiff, Nat.reduceLeDiff, Nat.zero_add, Nat.lt_irrefl, Nat.succ_sub_one, and_true, true_and, and_false, false_and, not_false_eq_true, not_true_eq_false, Bool.false_eq_true, Bool.not_true, Bool.not_false, Bool.not_eq_true', Bool.true_eq_false, decide_true, decide_false, decide_eq_true_eq, decide_eq_false_iff_not, Option.some.injEq, and_self, Nat.add_one_sub_one, Nat.lt_add_one, Nat.zero_lt_succ, Value.int.injEq, Value.ref.injEq, Value.long.injEq, exists_eq_left', exists_eq_left, Sum.inl.injEq, Sum.inr.injEq, i2z_b2i, h_vS, h_kN, n32_add, n32_mul, n32_inc, n_iEq, n_iNe, n_iLt, n_iLe, n_iGt, n_iGe, n_zEq, n_zLt, n_zLe, n_zGt, n_zGe, n_inb, n32_clamp, h.T.t, h_of w]
theorem ntS_eq (q : Nat) : ntS tp n q = if (!isW tp n q 6 && !isW tp n q 5) = true then none else some (if isW tp n q 6 = true then 1 else 0) := by
  unfold ntS
  cases a : isW tp n q 5
  · cases b : isW tp n q 6 <;> rfl
  · cases b : isW tp n q 6
    · rfl
    · exact absurd b (fun b => isW_56 a b)
theorem r_readNote (h : MB M X C n tp) (s : MS M X tp n (.inr q)) (Q : MQd M C p lo nm fl) (K : RdOK p lo nm fl) (k1 : tkK tp n q = 1) : ∃ M', f_X10_readNote [.ref X] M = some (none, M') ∧ MPo M M' X C n tp (pNote tp n (p, lo, nm, fl) q) := by
  have d := h.d
  have nn := K.O.nn
  obtain ⟨M1, e1, f1, s1⟩ := m_beg h s (fun q' hq => by cases hq; omega) (a := pN p) (b := 6) (by omega) (by decide)
  have h1 := f1.mb h
  generalize hσ : (if pN p = 6 then flw tp n 5 (.inr q) else gos tp n (.inr q)) = σ1 at s1
  have w := m_isW h1 s1 (i := 26) (by decide)
  rw [isWs_20 (j := 6) rfl (by decide)] at w
  obtain ⟨M2, f2, s2, e2⟩ := m_ntIf h1 s1
  have h2 := f2.mb h1
  have k5 : ok5 tp n (fwS tp n 1 (!isWs tp n σ1 6 && !isWs tp n σ1 5) σ1) := fun q' hq => by
    cases σ1 with
    | inl e => rw [fwS_l] at hq; cases hq
    | inr q1 =>
      have hq : fwS tp n 1 (!isW tp n q1 6 && !isW tp n q1 5) (.inr q1) = .inr q' := hq
      cases a : isW tp n q1 6
      · cases b : isW tp n q1 5
        · rw [a, b] at hq; cases hq
        · rw [a, b] at hq; cases hq; have := isW_1 b; omega
      · rw [a] at hq; cases hq; have := isW_1 a; omega
  obtain ⟨M3, e3, f3, s3⟩ := m_gos h2 s2 k5
  have h3 := f3.mb h2
  obtain ⟨v4, M4, e4, f4, s4, r4, -⟩ := m_rWh h3 s3 (a := 0) (b := 23) (by decide) (by decide)
  have h4 := f4.mb h3
  obtain ⟨M5, e5, f5, s5⟩ := m_needs h4 s4 (i := 31) (j := 11) rfl (by decide)
  have h5 := f5.mb h4
  obtain ⟨M6, e6, f6, s6⟩ := m_needs h5 s5 (i := if isWs tp n σ1 6 = true then 25 else 26) (j := if isWs tp n σ1 6 = true then 5 else 6) (by split <;> rfl) (by split <;> decide)
  have h6 := f6.mb h5
  obtain ⟨v7, M7, e7, f7, s7, r7, -⟩ := m_rWh h6 s6 (a := 0) (b := 23) (by decide) (by decide)
  have h7 := f7.mb h6
  have f07 := (((((f1.trans f2).trans f3).trans f4).trans f5).trans f6).trans f7
  have Q7 := Q.xf h f07
  obtain ⟨z, z1, z2, z3⟩ := s7.o
  have over : z = 5 → f_X10_readNote [.ref X] M = some (none, M7) := fun z5 => by
    apply h_eq
    delta f_X10_readNote
    rw [mnt_eq]
    simp (disch := omega) only [hR_d, hT_d, hI_t, hI_f, hVI_s, hVL_s, hVR_s, hVT_s, hVV_s, hO_s, hB_0, hB_1, hB_2, hB_r, hU_0, hU_1, hU_2, hU_r, hX_r, hL_0, hL_1, hL_2, hL_r, hC_s, h_k0, h_k1, h_k2, h_k3, h_k4, h_k5, h_k6, h_k7, h_k8, h_k9, h_k10, h_k11, h_k12, h_k14, h_k16, h_k18, h_k20, h_k23, h_k24, h_k25, h_k32, h_k44, h_k48, h_k50, h_k54, h_k57, h_k58, h_k59, h_k60, h_k63, h_k97, h_k100, h_k122, h_k177, h_k255, h_k400, h_k450, h_k625, h_k649, h_k708, h_k800, h_k900, h_k2500, h_k22500, h_k45000, h_kn1, h_kn2, h_kJ, h_kU, h_eI, h_eL, h_eR, h_eT, h_b1, h_eZ, h_not, h_b2, h_b0, h_b0L, h_gI, h_gL, h_gN, h_gR, h_aI, h_aL, h_aR, h_aLen, h_tern, h_and, h_or, h_vN, h_vI, h_vJ, h_vA, h_cFv, h_cFs, h_toI, h_toL, h_toV, h_nO, h_nA, g_skip, g_brk, g_cnt, g_retV, g_seq, g_if, g_setI, g_setR, g_setL, g_inc, g_putI, g_putZ, g_putL, g_putR, g_upI, g_AI, g_AL, g_AR, g_UA, g_exp, g_retI, g_retL, g_retZ, g_scope, g_unBrk, g_sup, h_fn, argE_n, argE_i, argE_r, argE_l, argE_a, sto_0, sto_s, sto_n0, sto_ns, isL_i, isL_r, isL_n, isL_a, isL_l, isL_0, rcv_r, rcv_a, List.getElem?_cons_zero, List.getElem?_cons_succ, List.getElem?_nil, List.set_cons_zero, List.set_cons_succ, List.take_succ_cons, List.take_zero, List.take_nil, List.length_cons, List.length_nil, List.nil_append, List.cons_append, Nat.reduceAdd, Nat.reduceSub, Nat.reduceLT, Nat.reduceEqDiff, Nat.reduceLeDiff, Nat.zero_add, Nat.lt_irrefl, Nat.succ_sub_one, and_true, true_and, and_false, false_and, not_false_eq_true, not_true_eq_false, Bool.false_eq_true, Bool.not_true, Bool.not_false, Bool.not_eq_true', Bool.true_eq_false, decide_true, decide_false, decide_eq_true_eq, decide_eq_false_iff_not, Option.some.injEq, and_self, Nat.add_one_sub_one, Nat.lt_add_one, Nat.zero_lt_succ, Value.int.injEq, Value.ref.injEq, Value.long.injEq, exists_eq_left', exists_eq_left, Sum.inl.injEq, Sum.inr.injEq, i2z_b2i, h_vS, h_kN, n32_add, n32_mul, n32_inc, n_iEq, n_iNe, n_iLt, n_iLe, n_iGt, n_iGe, n_zEq, n_zLt, n_zLe, n_zGt, n_zGe, n_inb, n32_clamp, tg_pI, tg_pL, tg_pR, vr_pI, vr_pL, vl_pI, vl_pR, vi_pL, vi_pR, mN_pI, mN_pL, mN_pR, mU_pI, mU_pL, mU_pR, h.T.t, h.r4, h.D.t, Q.V.nn, h_of e1, h1.T.t, h_of w, e2, h2.T.t, h_of e3, h3.T.t, h_of e4, h4.T.t, h_of e5, h5.T.t, nt_N (e := [.ref X, .int (b2i (isWs tp n σ1 6)), .int (n32 v4)]) rfl, h_of e6, h6.T.t, h_of e7, h7.T.t, z1, z5]
  by_cases t : 6 ≤ pN p
  · rw [if_pos (show pN p = 6 by omega)] at hσ
    subst hσ
    rw [show flw tp n 5 (.inr q) = .inl (5, tkP tp n q) from rfl, fwS_l] at s7 z3
    exact ⟨M7, over (of_decide_eq_true z3), MPo.f (e := (5, tkP tp n q)) (by unfold pNote; exact if_pos t) (f07.lf C) s7⟩
  · rw [if_neg (show ¬ pN p = 6 by omega), gos_r] at hσ
    subst hσ
    have nS := ntS_eq (tp := tp) (n := n) (tkE tp n q)
    rw [show isWs tp n (.inr (tkE tp n q)) 6 = isW tp n (tkE tp n q) 6 from rfl] at *
    rw [show isWs tp n (.inr (tkE tp n q)) 5 = isW tp n (tkE tp n q) 5 from rfl] at *
    cases y1 : (!isW tp n (tkE tp n q) 6 && !isW tp n (tkE tp n q) 5) with
    | true =>
      rw [y1, if_pos rfl] at nS
      rw [y1, fwS_t, show flw tp n 1 (.inr (tkE tp n q)) = .inl (1, tkP tp n (tkE tp n q)) from rfl] at s7 z3
      exact ⟨M7, over (of_decide_eq_true z3), MPo.f (e := (1, tkP tp n (tkE tp n q))) (by unfold pNote; rw [if_neg t, nS]) (f07.lf C) s7⟩
    | false =>
    rw [y1, if_neg (by decide)] at nS
    rw [y1, fwS_f, gos_r, pB_r] at s7 z3 r7
    rw [y1, fwS_f, gos_r, pB_r] at r4
    have hj : (if isW tp n (tkE tp n q) 6 = true then 5 else 6) = (if (if isW tp n (tkE tp n q) 6 = true then 1 else 0) = 0 then 6 else 5) := by
      by_cases a : isW tp n (tkE tp n q) 6 = true
      · rw [if_pos a, if_pos a]; rfl
      · rw [if_neg a, if_neg a]; rfl
    rw [hj] at s7 z3 r7
    have hs2 : (if isW tp n (tkE tp n q) 6 = true then 1 else 0) < 2 := by split <;> decide
    generalize hS : (if isW tp n (tkE tp n q) 6 = true then 1 else 0) = S at *
    cases y2 : pWh tp n 0 23 (tkE tp n (tkE tp n q)) with
    | inl e =>
      rw [y2] at s7 z3
      exact ⟨M7, over (of_decide_eq_true z3), MPo.f (by unfold pNote; rw [if_neg t, nS]; simp only [y2, pB_l]) (f07.lf C) s7⟩
    | inr x4 =>
    rw [y2, show sN (.inr x4) = .inr x4.2 from rfl, pB_r] at s7 z3 r7
    cases y3 : pW tp n 11 x4.2 with
    | inl e =>
      rw [y3] at s7 z3
      exact ⟨M7, over (of_decide_eq_true z3), MPo.f (by unfold pNote; rw [if_neg t, nS]; simp only [y2, y3, pB_l, pB_r]) (f07.lf C) s7⟩
    | inr q3 =>
    rw [y3, pB_r] at s7 z3 r7
    cases y4 : pW tp n (if S = 0 then 6 else 5) q3 with
    | inl e =>
      rw [y4] at s7 z3
      exact ⟨M7, over (of_decide_eq_true z3), MPo.f (by unfold pNote; rw [if_neg t, nS]; simp only [y2, y3, y4, pB_l, pB_r]) (f07.lf C) s7⟩
    | inr q4 =>
    rw [y4, pB_r] at s7 z3 r7
    cases y5 : pWh tp n 0 23 q4 with
    | inl e =>
      rw [y5] at s7 z3
      exact ⟨M7, over (of_decide_eq_true z3), MPo.f (by unfold pNote; rw [if_neg t, nS]; simp only [y2, y3, y4, y5, pB_l, pB_r]) (f07.lf C) s7⟩
    | inr x7 =>
    rw [y5, show sN (.inr x7) = .inr x7.2 from rfl] at s7 z3
    obtain ⟨rfl, -, b4⟩ := r4 x4 y2
    obtain ⟨rfl, -, b7⟩ := r7 x7 y5
    have z5 : ¬ z = 5 := of_decide_eq_false z3
    obtain ⟨M8, hM8⟩ : ∃ M8, M8 = pI (pI (pI (pI M7 (C + 16) (pN p) (n32 S)) (C + 17) (pN p) (n32 x4.1)) (C + 18) (pN p) (n32 x7.1)) C 5 (n32 (pN p + 1)) := ⟨_, rfl⟩
    have k8 : ∀ a j, ¬ ((a = C + 16 ∧ j = pN p) ∨ (a = C + 17 ∧ j = pN p) ∨ (a = C + 18 ∧ j = pN p) ∨ (a = C ∧ j = 5)) → vi M8 a j = vi M7 a j := fun a j hn => by rw [hM8, vi_pI, if_neg (by omega), vi_pI, if_neg (by omega), vi_pI, if_neg (by omega), vi_pI, if_neg (by omega)]
    have l8 : vl M8 = vl M7 := by rw [hM8]; rfl
    have f8 : LF M7 M8 X C := by
      refine ⟨?_, fun j hj => k8 _ _ (by omega)⟩
      rw [hM8]
      exact ((((Fr.refl (mS X C) M7).pI _ _ (Or.inr ⟨by omega, by omega⟩)).pI _ _ (Or.inr ⟨by omega, by omega⟩)).pI _ _ (Or.inr ⟨by omega, by omega⟩)).pI _ _ (Or.inr ⟨by omega, by omega⟩)
    have s8 : MS M8 X tp n (.inr x7.2) := s7.mv (fun j => k8 _ _ (by omega)) (by rw [l8])
    have c7 := Q7.V.nn
    refine ⟨M8, ?_, MPo.s (rd := (plO p S x4.1 x7.1, lo, nm, fl)) (by unfold pNote; rw [if_neg t, nS]; simp only [y2, y3, y4, y5, pB_r]) ((f07.lf C).trans f8) s8 ⟨?_, ?_, ?_, fun u v hu hv => ?_, fun u i hu hi => ?_, fun u hu => ?_, fun u hu => ?_, fun r hr => ?_, fun r hr => ?_, fun r hr hk => ?_⟩⟩
    · have a1 : ∀ y, vi (pI M7 (C + 16) (pN p) y) C 5 = n32 (pN p) := fun y => by rw [vi_ne (by omega)]; exact c7
      have a2 : ∀ y w, vi (pI (pI M7 (C + 16) (pN p) y) (C + 17) (pN p) w) C 5 = n32 (pN p) := fun y w => by rw [vi_ne (by omega)]; exact a1 y
      have a3 : ∀ y w u, vi (pI (pI (pI M7 (C + 16) (pN p) y) (C + 17) (pN p) w) (C + 18) (pN p) u) C 5 = n32 (pN p) := fun y w u => by rw [vi_ne (by omega)]; exact a2 y w
      apply h_eq
      delta f_X10_readNote
      rw [mnt_eq]
      simp (disch := omega) only [hR_d, hT_d, hI_t, hI_f, hVI_s, hVL_s, hVR_s, hVT_s, hVV_s, hO_s, hB_0, hB_1, hB_2, hB_r, hU_0, hU_1, hU_2, hU_r, hX_r, hL_0, hL_1, hL_2, hL_r, hC_s, h_k0, h_k1, h_k2, h_k3, h_k4, h_k5, h_k6, h_k7, h_k8, h_k9, h_k10, h_k11, h_k12, h_k14, h_k16, h_k18, h_k20, h_k23, h_k24, h_k25, h_k32, h_k44, h_k48, h_k50, h_k54, h_k57, h_k58, h_k59, h_k60, h_k63, h_k97, h_k100, h_k122, h_k177, h_k255, h_k400, h_k450, h_k625, h_k649, h_k708, h_k800, h_k900, h_k2500, h_k22500, h_k45000, h_kn1, h_kn2, h_kJ, h_kU, h_eI, h_eL, h_eR, h_eT, h_b1, h_eZ, h_not, h_b2, h_b0, h_b0L, h_gI, h_gL, h_gN, h_gR, h_aI, h_aL, h_aR, h_aLen, h_tern, h_and, h_or, h_vN, h_vI, h_vJ, h_vA, h_cFv, h_cFs, h_toI, h_toL, h_toV, h_nO, h_nA, g_skip, g_brk, g_cnt, g_retV, g_seq, g_if, g_setI, g_setR, g_setL, g_inc, g_putI, g_putZ, g_putL, g_putR, g_upI, g_AI, g_AL, g_AR, g_UA, g_exp, g_retI, g_retL, g_retZ, g_scope, g_unBrk, g_sup, h_fn, argE_n, argE_i, argE_r, argE_l, argE_a, sto_0, sto_s, sto_n0, sto_ns, isL_i, isL_r, isL_n, isL_a, isL_l, isL_0, rcv_r, rcv_a, List.getElem?_cons_zero, List.getElem?_cons_succ, List.getElem?_nil, List.set_cons_zero, List.set_cons_succ, List.take_succ_cons, List.take_zero, List.take_nil, List.length_cons, List.length_nil, List.nil_append, List.cons_append, Nat.reduceAdd, Nat.reduceSub, Nat.reduceLT, Nat.reduceEqDiff, Nat.reduceLeDiff, Nat.zero_add, Nat.lt_irrefl, Nat.succ_sub_one, and_true, true_and, and_false, false_and, not_false_eq_true, not_true_eq_false, Bool.false_eq_true, Bool.not_true, Bool.not_false, Bool.not_eq_true', Bool.true_eq_false, decide_true, decide_false, decide_eq_true_eq, decide_eq_false_iff_not, Option.some.injEq, and_self, Nat.add_one_sub_one, Nat.lt_add_one, Nat.zero_lt_succ, Value.int.injEq, Value.ref.injEq, Value.long.injEq, exists_eq_left', exists_eq_left, Sum.inl.injEq, Sum.inr.injEq, i2z_b2i, h_vS, h_kN, n32_add, n32_mul, n32_inc, n_iEq, n_iNe, n_iLt, n_iLe, n_iGt, n_iGe, n_zEq, n_zLt, n_zLe, n_zGt, n_zGe, n_inb, n32_clamp, tg_pI, tg_pL, tg_pR, vr_pI, vr_pL, vl_pI, vl_pR, vi_pL, vi_pR, mN_pI, mN_pL, mN_pR, mU_pI, mU_pL, mU_pR, h.T.t, h.r4, h.D.t, Q.V.nn, h_of e1, h1.T.t, h_of w, e2, h2.T.t, h_of e3, h3.T.t, h_of e4, h4.T.t, h_of e5, h5.T.t, nt_N (e := [.ref X, .int (b2i (isW tp n (tkE tp n q) 6)), .int (n32 x4.1)]) rfl, h_of e6, h6.T.t, h_of e7, h7.T.t, z1, z5, h7.r4, h7.D.t, h7.D.r24, h7.D.t16, h7.D.r25, h7.D.t17, h7.D.r26, h7.D.t18, nt_Z (e := [.ref X, .int (b2i (isW tp n (tkE tp n q) 6)), .int (n32 x4.1), .int (n32 x7.1)]) rfl, hS, c7, a1, a2, a3, nar, Nat.reduceEqDiff, if_false, if_true, ← hM8]
      omega
    · exact Q7.V.u_no K.O (by omega) hs2 (by omega) (by omega) k8 (by rw [hM8, vi_ne (by omega), vi_ne (by omega), vi_ne (by omega), vi_self]) (by rw [hM8, vi_ne (by omega), vi_ne (by omega), vi_self]) (by rw [hM8, vi_ne (by omega), vi_self]) (by rw [hM8, vi_self])
    · exact ⟨by rw [k8 _ _ (by omega)]; exact Q7.N.nn, Q7.N.n14, fun i hi => by rw [l8, k8 _ _ (by omega), k8 _ _ (by omega)]; exact Q7.N.nw i hi, Q7.N.ok⟩
    · rw [k8 _ _ (by omega)]; exact Q7.told
    · rw [k8 _ _ (by omega)]; exact Q7.st u v hu hv
    · rw [k8 _ _ (by omega)]; exact Q7.wv u i hu hi
    · rw [k8 _ _ (by omega)]; exact Q7.wm u hu
    · rw [k8 _ _ (by omega)]; exact Q7.iw u hu
    · rw [k8 _ _ (by omega)]; exact Q7.inx r hr
    · rw [k8 _ _ (by omega)]; exact Q7.ian r hr
    · have hk : pK p ≤ r := hk
      rw [k8 _ _ (by omega)]; exact Q7.z11 r hr hk
end
