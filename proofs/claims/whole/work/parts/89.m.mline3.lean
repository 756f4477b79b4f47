/-! THE REFERENCE'S READER: answers, notes -/
noncomputable def fIf (g i : Nat) : Sv := (sIf (cAnd (b2 iNe (gI 11 9 (eR 0)) (eK (5 : Int32))) (b1 i2z (aI 23 (gR 10 g (gR 11 4 (eR 0))) (eI i)))) (sExp (toV (cFv 11 f_X10_flaw (vI (vA vN (eR 0)) (eK (3 : Int32)))))) sSkip)
def fwS (tp : Nat → Int32) (n k : Nat) (b : Bool) (σ : Pr Nat) : Pr Nat := if b = true then flw tp n k σ else σ
section
variable {M : qM} {X C n q : Nat} {tp : Nat → Int32} {σ : Pr Nat} {p : Pl} {lo : Lo} {nm : Nm} {fl : Fl}
theorem n1_and : n32 1 &&& 1 = n32 1 := by decide
theorem fwS_l {k : Nat} {b : Bool} {e : Nat × Nat} : fwS tp n k b (.inl e) = .inl e := by unfold fwS; split <;> rfl
theorem fwS_t {k : Nat} : fwS tp n k true σ = flw tp n k σ := by unfold fwS; exact if_pos rfl
theorem fwS_f {k : Nat} : fwS tp n k false σ = σ := by unfold fwS; exact if_neg (by decide)
theorem knS_l {z : Nat} {e : Nat × Nat} : knS tp n nm z (.inl e) = .inl e := rfl
theorem gos_l {e : Nat × Nat} : gos tp n (.inl e) = .inl e := rfl
theorem gos_r {q : Nat} : gos tp n (.inr q) = .inr (tkE tp n q) := rfl
theorem knS_f {z : Nat} {e : Nat × Nat} (h : pKn tp n nm z q = .inl e) : knS tp n nm z (.inr q) = .inl e := by unfold knS; rw [pB_r, h]; rfl
theorem knS_s {z k : Nat} (h : pKn tp n nm z q = .inr k) : knS tp n nm z (.inr q) = .inr q := by unfold knS; rw [pB_r, h]; rfl
theorem ok_kn {z : Nat} : ok5 tp n (knS tp n nm z σ) := fun q' hq => by
  cases σ with
  | inl e => cases hq
  | inr q3 =>
    cases y2 : pKn tp n nm z q3 with
    | inl e => rw [knS_f y2] at hq; cases hq
    | inr k => rw [knS_s y2] at hq; cases hq; have := pKn_1 y2; omega
theorem ok_f {k : Nat} {b : Bool} (h : ok5 tp n σ) : ok5 tp n (fwS tp n k b σ) := by
  cases b
  · rw [fwS_f]; exact h
  · rw [fwS_t]
    intro q hq
    cases σ with
    | inl e => cases hq
    | inr q => cases hq
theorem m_fIf (h : MB M X C n tp) (s : MS M X tp n σ) {g i k A : Nat} {b : Bool} (hr : vr M C g = some A) (ht : tg M A = (23, 8)) (hk : k < 8) (hv : vi M A k = b2i b) : ∃ M', XF M M' X ∧ MS M' X tp n (fwS tp n 3 b σ) ∧ ∀ e : qE, e[0]? = some (.ref X) → e[i]? = some (.int (n32 k)) → ∀ (Q : Re → qE → qM → Prop) (u : Hd (fIf g i, Q)), hS (fIf g i) e M Q u = Q (.inl 0) e M' := by
  cases σ with
  | inl y =>
    have s1 := s.1
    rw [fwS_l]
    refine ⟨M, XF.refl _ _, s, fun e h0 hi Q u => ?_⟩
    show hS (fIf g i) e M Q () = _
    unfold fIf
    simp (disch := omega) only [hR_d, hT_d, hI_t, hI_f, hVI_s, hVL_s, hVR_s, hVT_s, hVV_s, hO_s, hB_0, hB_1, hB_2, hB_r, hU_0, hU_1, hU_2, hU_r, hX_r, hL_0, hL_1, hL_2, hL_r, hC_s, h_k0, h_k1, h_k2, h_k3, h_k4, h_k5, h_k6, h_k7, h_k8, h_k9, h_k10, h_k11, h_k12, h_k14, h_k16, h_k18, h_k20, h_k23, h_k24, h_k25, h_k32, h_k44, h_k48, h_k50, h_k54, h_k57, h_k58, h_k59, h_k60, h_k63, h_k97, h_k100, h_k122, h_k177, h_k255, h_k400, h_k450, h_k625, h_k649, h_k708, h_k800, h_k900, h_k2500, h_k22500, h_k45000, h_kn1, h_kn2, h_kJ, h_kU, h_eI, h_eL, h_eR, h_eT, h_b1, h_eZ, h_not, h_b2, h_b0, h_b0L, h_gI, h_gL, h_gN, h_gR, h_aI, h_aL, h_aR, h_aLen, h_tern, h_and, h_or, h_vN, h_vI, h_vJ, h_vA, h_cFv, h_cFs, h_toI, h_toL, h_toV, h_nO, h_nA, g_skip, g_brk, g_cnt, g_retV, g_seq, g_if, g_setI, g_setR, g_setL, g_inc, g_putI, g_putZ, g_putL, g_putR, g_upI, g_AI, g_AL, g_AR, g_UA, g_exp, g_retI, g_retL, g_retZ, g_scope, g_unBrk, g_sup, h_fn, argE_n, argE_i, argE_r, argE_l, argE_a, sto_0, sto_s, sto_n0, sto_ns, isL_i, isL_r, isL_n, isL_a, isL_l, isL_0, rcv_r, rcv_a, List.getElem?_cons_zero, List.getElem?_cons_succ, List.getElem?_nil, List.set_cons_zero, List.set_cons_succ, List.take_succ_cons, List.take_zero, List.take_nil, List.length_cons, List.length_nil, List.nil_append, List.cons_append, Nat.reduceAdd, Nat.reduceSub, Nat.reduceLT, Nat.reduceEqDiff, Nat.reduceLeDiff, Nat.zero_add, Nat.lt_irrefl, Nat.succ_sub_one, and_true, true_and, and_false, false_and, not_false_eq_true, not_true_eq_false, Bool.false_eq_true, Bool.not_true, Bool.not_false, Bool.not_eq_true', Bool.true_eq_false, decide_true, decide_false, decide_eq_true_eq, decide_eq_false_iff_not, Option.some.injEq, and_self, Nat.add_one_sub_one, Nat.lt_add_one, Nat.zero_lt_succ, Value.int.injEq, Value.ref.injEq, Value.long.injEq, exists_eq_left', exists_eq_left, Sum.inl.injEq, Sum.inr.injEq, i2z_b2i, h_vS, h_kN, n32_add, n32_mul, n32_inc, n_iEq, n_iNe, n_iLt, n_iLe, n_iGt, n_iGe, n_zEq, n_zLt, n_zLe, n_zGt, n_zGe, n_inb, n32_clamp, h0, hi, h.T.t, s1, ne_eq]
  | inr q =>
    have s9 := s.2.1.2.1
    have sl := srt_lt (tkK tp n q)
    cases b
    · rw [fwS_f]
      refine ⟨M, XF.refl _ _, s, fun e h0 hi Q u => ?_⟩
      show hS (fIf g i) e M Q () = _
      unfold fIf
      simp (disch := omega) only [hR_d, hT_d, hI_t, hI_f, hVI_s, hVL_s, hVR_s, hVT_s, hVV_s, hO_s, hB_0, hB_1, hB_2, hB_r, hU_0, hU_1, hU_2, hU_r, hX_r, hL_0, hL_1, hL_2, hL_r, hC_s, h_k0, h_k1, h_k2, h_k3, h_k4, h_k5, h_k6, h_k7, h_k8, h_k9, h_k10, h_k11, h_k12, h_k14, h_k16, h_k18, h_k20, h_k23, h_k24, h_k25, h_k32, h_k44, h_k48, h_k50, h_k54, h_k57, h_k58, h_k59, h_k60, h_k63, h_k97, h_k100, h_k122, h_k177, h_k255, h_k400, h_k450, h_k625, h_k649, h_k708, h_k800, h_k900, h_k2500, h_k22500, h_k45000, h_kn1, h_kn2, h_kJ, h_kU, h_eI, h_eL, h_eR, h_eT, h_b1, h_eZ, h_not, h_b2, h_b0, h_b0L, h_gI, h_gL, h_gN, h_gR, h_aI, h_aL, h_aR, h_aLen, h_tern, h_and, h_or, h_vN, h_vI, h_vJ, h_vA, h_cFv, h_cFs, h_toI, h_toL, h_toV, h_nO, h_nA, g_skip, g_brk, g_cnt, g_retV, g_seq, g_if, g_setI, g_setR, g_setL, g_inc, g_putI, g_putZ, g_putL, g_putR, g_upI, g_AI, g_AL, g_AR, g_UA, g_exp, g_retI, g_retL, g_retZ, g_scope, g_unBrk, g_sup, h_fn, argE_n, argE_i, argE_r, argE_l, argE_a, sto_0, sto_s, sto_n0, sto_ns, isL_i, isL_r, isL_n, isL_a, isL_l, isL_0, rcv_r, rcv_a, List.getElem?_cons_zero, List.getElem?_cons_succ, List.getElem?_nil, List.set_cons_zero, List.set_cons_succ, List.take_succ_cons, List.take_zero, List.take_nil, List.length_cons, List.length_nil, List.nil_append, List.cons_append, Nat.reduceAdd, Nat.reduceSub, Nat.reduceLT, Nat.reduceEqDiff, Nat.reduceLeDiff, Nat.zero_add, Nat.lt_irrefl, Nat.succ_sub_one, and_true, true_and, and_false, false_and, not_false_eq_true, not_true_eq_false, Bool.false_eq_true, Bool.not_true, Bool.not_false, Bool.not_eq_true', Bool.true_eq_false, decide_true, decide_false, decide_eq_true_eq, decide_eq_false_iff_not, Option.some.injEq, and_self, Nat.add_one_sub_one, Nat.lt_add_one, Nat.zero_lt_succ, Value.int.injEq, Value.ref.injEq, Value.long.injEq, exists_eq_left', exists_eq_left, Sum.inl.injEq, Sum.inr.injEq, i2z_b2i, h_vS, h_kN, n32_add, n32_mul, n32_inc, n_iEq, n_iNe, n_iLt, n_iLe, n_iGt, n_iGe, n_zEq, n_zLt, n_zLe, n_zGt, n_zGe, n_inb, n32_clamp, h0, hi, h.T.t, ne_eq, s9, show ¬ srt (tkK tp n q) = 5 by omega, h.r4, h.D.t, hr, ht, hk, hv]
    · obtain ⟨M1, e1, f1, s1⟩ := m_flaw h s 3
      rw [fwS_t]
      refine ⟨M1, f1, s1, fun e h0 hi Q u => ?_⟩
      show hS (fIf g i) e M Q () = _
      unfold fIf
      simp (disch := omega) only [hR_d, hT_d, hI_t, hI_f, hVI_s, hVL_s, hVR_s, hVT_s, hVV_s, hO_s, hB_0, hB_1, hB_2, hB_r, hU_0, hU_1, hU_2, hU_r, hX_r, hL_0, hL_1, hL_2, hL_r, hC_s, h_k0, h_k1, h_k2, h_k3, h_k4, h_k5, h_k6, h_k7, h_k8, h_k9, h_k10, h_k11, h_k12, h_k14, h_k16, h_k18, h_k20, h_k23, h_k24, h_k25, h_k32, h_k44, h_k48, h_k50, h_k54, h_k57, h_k58, h_k59, h_k60, h_k63, h_k97, h_k100, h_k122, h_k177, h_k255, h_k400, h_k450, h_k625, h_k649, h_k708, h_k800, h_k900, h_k2500, h_k22500, h_k45000, h_kn1, h_kn2, h_kJ, h_kU, h_eI, h_eL, h_eR, h_eT, h_b1, h_eZ, h_not, h_b2, h_b0, h_b0L, h_gI, h_gL, h_gN, h_gR, h_aI, h_aL, h_aR, h_aLen, h_tern, h_and, h_or, h_vN, h_vI, h_vJ, h_vA, h_cFv, h_cFs, h_toI, h_toL, h_toV, h_nO, h_nA, g_skip, g_brk, g_cnt, g_retV, g_seq, g_if, g_setI, g_setR, g_setL, g_inc, g_putI, g_putZ, g_putL, g_putR, g_upI, g_AI, g_AL, g_AR, g_UA, g_exp, g_retI, g_retL, g_retZ, g_scope, g_unBrk, g_sup, h_fn, argE_n, argE_i, argE_r, argE_l, argE_a, sto_0, sto_s, sto_n0, sto_ns, isL_i, isL_r, isL_n, isL_a, isL_l, isL_0, rcv_r, rcv_a, List.getElem?_cons_zero, List.getElem?_cons_succ, List.getElem?_nil, List.set_cons_zero, List.set_cons_succ, List.take_succ_cons, List.take_zero, List.take_nil, List.length_cons, List.length_nil, List.nil_append, List.cons_append, Nat.reduceAdd, Nat.reduceSub, Nat.reduceLT, Nat.reduceEqDiff, Nat.reduceLeDiff, Nat.zero_add, Nat.lt_irrefl, Nat.succ_sub_one, and_true, true_and, and_false, false_and, not_false_eq_true, not_true_eq_false, Bool.false_eq_true, Bool.not_true, Bool.not_false, Bool.not_eq_true', Bool.true_eq_false, decide_true, decide_false, decide_eq_true_eq, decide_eq_false_iff_not, Option.some.injEq, and_self, Nat.add_one_sub_one, Nat.lt_add_one, Nat.zero_lt_succ, Value.int.injEq, Value.ref.injEq, Value.long.injEq, exists_eq_left', exists_eq_left, Sum.inl.injEq, Sum.inr.injEq, i2z_b2i, h_vS, h_kN, n32_add, n32_mul, n32_inc, n_iEq, n_iNe, n_iLt, n_iLe, n_iGt, n_iGe, n_zEq, n_zLt, n_zLe, n_zGt, n_zGe, n_inb, n32_clamp, h0, hi, h.T.t, ne_eq, s9, show ¬ srt (tkK tp n q) = 5 by omega, h.r4, h.D.t, hr, ht, hk, hv, h_of e1]
noncomputable def anT : Sv := (sSeq (sAI 23 (gR 10 16 (gR 11 4 (eR 0))) (eI 1) (eK (1 : Int32))) (sSeq (sAI 23 (gR 10 16 (gR 11 4 (eR 0))) (eI 2) (eK (1 : Int32))) (sSeq (sAI 20 (gR 10 20 (gR 11 4 (eR 0))) (eI 1) (eI 2)) (sAI 20 (gR 10 20 (gR 11 4 (eR 0))) (eI 2) (eI 1)))))
theorem an_eq : b_X10_readAnswers = (sSeq (sScope 1 (sSeq (sExp (toV (cFv 11 f_X10_goesOn (vA vN (eR 0))))) (sSeq (sSetI 1 (toI (cFv 11 f_X10_known (vI (vA vN (eR 0)) (eK (1 : Int32)))))) (sSeq (fIf 16 1) (sSeq (sExp (toV (cFv 11 f_X10_goesOn (vA vN (eR 0))))) (sSeq (sSetI 2 (toI (cFv 11 f_X10_known (vI (vA vN (eR 0)) (eK (1 : Int32)))))) (sSeq (fIf 16 2) (sSeq (sExp (toV (cFv 11 f_X10_goesOn (vA vN (eR 0))))) (sSeq (sIf (b2 iEq (gI 11 9 (eR 0)) (eK (5 : Int32))) sRetV sSkip) anT))))))))) sRetV) := rfl
theorem r_readAnswers (h : MB M X C n tp) (s : MS M X tp n (.inr q)) (Q : MQd M C p lo nm fl) (K : RdOK p lo nm fl) (k1 : tkK tp n q = 1) : ∃ M', f_X10_readAnswers [.ref X] M = some (none, M') ∧ MPo M M' X C n tp (pAnsw tp n (p, lo, nm, fl) q) := by
  have d := h.d
  have kk := K.O.kinds
  obtain ⟨M1, e1, f1, s1⟩ := m_gos h s (fun q' hq => by cases hq; omega)
  rw [gos_r] at s1
  have h1 := f1.mb h
  have Q1 := Q.xf h f1
  obtain ⟨a, M2, e2, f2, a8, s2, r2⟩ := m_known h1 s1 Q1.N (z := 1) (by decide)
  have h2 := f2.mb h1
  have f02 := f1.trans f2
  have Q2 := Q.xf h f02
  obtain ⟨M3, f3, s3, e3⟩ := m_fIf h2 s2 (g := 16) (i := 1) (k := a) (A := C + 8) (b := fl 3 a) h2.D.r16 h2.D.t8 a8 (Q2.ian a a8)
  have h3 := f3.mb h2
  obtain ⟨M4, e4, f4, s4⟩ := m_gos h3 s3 (ok_f ok_kn)
  have h4 := f4.mb h3
  have f04 := (f02.trans f3).trans f4
  have Q4 := Q.xf h f04
  obtain ⟨b, M5, e5, f5, b8, s5, r5⟩ := m_known h4 s4 Q4.N (z := 1) (by decide)
  have h5 := f5.mb h4
  have f05 := f04.trans f5
  have Q5 := Q.xf h f05
  obtain ⟨M6, f6, s6, e6⟩ := m_fIf h5 s5 (g := 16) (i := 2) (k := b) (A := C + 8) (b := fl 3 b) h5.D.r16 h5.D.t8 b8 (Q5.ian b b8)
  have h6 := f6.mb h5
  obtain ⟨M7, e7, f7, s7⟩ := m_gos h6 s6 (ok_f ok_kn)
  have h7 := f7.mb h6
  have f07 := (f05.trans f6).trans f7
  have Q7 := Q.xf h f07
  obtain ⟨z, z1, z2, z3⟩ := s7.o
  have over : z = 5 → f_X10_readAnswers [.ref X] M = some (none, M7) := fun z5 => by
    apply h_eq
    delta f_X10_readAnswers
    rw [an_eq]
    simp (disch := omega) only [hR_d, hT_d, hI_t, hI_f, hVI_s, hVL_s, hVR_s, hVT_s, hVV_s, hO_s, hB_0, hB_1, hB_2, hB_r, hU_0, hU_1, hU_2, hU_r, hX_r, hL_0, hL_1, hL_2, hL_r, hC_s, h_k0, h_k1, h_k2, h_k3, h_k4, h_k5, h_k6, h_k7, h_k8, h_k9, h_k10, h_k11, h_k12, h_k14, h_k16, h_k18, h_k20, h_k23, h_k24, h_k25, h_k32, h_k44, h_k48, h_k50, h_k54, h_k57, h_k58, h_k59, h_k60, h_k63, h_k97, h_k100, h_k122, h_k177, h_k255, h_k400, h_k450, h_k625, h_k649, h_k708, h_k800, h_k900, h_k2500, h_k22500, h_k45000, h_kn1, h_kn2, h_kJ, h_kU, h_eI, h_eL, h_eR, h_eT, h_b1, h_eZ, h_not, h_b2, h_b0, h_b0L, h_gI, h_gL, h_gN, h_gR, h_aI, h_aL, h_aR, h_aLen, h_tern, h_and, h_or, h_vN, h_vI, h_vJ, h_vA, h_cFv, h_cFs, h_toI, h_toL, h_toV, h_nO, h_nA, g_skip, g_brk, g_cnt, g_retV, g_seq, g_if, g_setI, g_setR, g_setL, g_inc, g_putI, g_putZ, g_putL, g_putR, g_upI, g_AI, g_AL, g_AR, g_UA, g_exp, g_retI, g_retL, g_retZ, g_scope, g_unBrk, g_sup, h_fn, argE_n, argE_i, argE_r, argE_l, argE_a, sto_0, sto_s, sto_n0, sto_ns, isL_i, isL_r, isL_n, isL_a, isL_l, isL_0, rcv_r, rcv_a, List.getElem?_cons_zero, List.getElem?_cons_succ, List.getElem?_nil, List.set_cons_zero, List.set_cons_succ, List.take_succ_cons, List.take_zero, List.take_nil, List.length_cons, List.length_nil, List.nil_append, List.cons_append, Nat.reduceAdd, Nat.reduceSub, Nat.reduceLT, Nat.reduceEqDiff, Nat.reduceLeDiff, Nat.zero_add, Nat.lt_irrefl, Nat.succ_sub_one, and_true, true_and, and_false, false_and, not_false_eq_true, not_true_eq_false, Bool.false_eq_true, Bool.not_true, Bool.not_false, Bool.not_eq_true', Bool.true_eq_false, decide_true, decide_false, decide_eq_true_eq, decide_eq_false_iff_not, Option.some.injEq, and_self, Nat.add_one_sub_one, Nat.lt_add_one, Nat.zero_lt_succ, Value.int.injEq, Value.ref.injEq, Value.long.injEq, exists_eq_left', exists_eq_left, Sum.inl.injEq, Sum.inr.injEq, i2z_b2i, h_vS, h_kN, n32_add, n32_mul, n32_inc, n_iEq, n_iNe, n_iLt, n_iLe, n_iGt, n_iGe, n_zEq, n_zLt, n_zLe, n_zGt, n_zGe, n_inb, n32_clamp, tg_pI, tg_pL, tg_pR, vr_pI, vr_pL, vl_pI, vl_pR, vi_pL, vi_pR, mN_pI, mN_pL, mN_pR, mU_pI, mU_pL, mU_pR, h.T.t, h_of e1, h1.T.t, h_of e2, h2.T.t, e3 [.ref X, .int (n32 a)] rfl rfl, h3.T.t, h_of e4, h4.T.t, h_of e5, h5.T.t, e6 [.ref X, .int (n32 a), .int (n32 b)] rfl rfl, h6.T.t, h_of e7, h7.T.t, z1, z5]
  cases y1 : pKn tp n nm 1 (tkE tp n q) with
  | inl e =>
    rw [knS_f y1, fwS_l, gos_l, knS_l, fwS_l, gos_l] at s7 z3
    exact ⟨M7, over (of_decide_eq_true z3), MPo.f (by unfold pAnsw; simp only [y1, pB_l]) (f07.lf C) s7⟩
  | inr a' =>
    have ea := r2 _ a' rfl y1
    subst ea
    rw [knS_s y1] at s7 z3 r5
    cases fa : fl 3 a with
    | true =>
      rw [fa, fwS_t, show flw tp n 3 (.inr (tkE tp n q)) = .inl (3, tkP tp n (tkE tp n q)) from rfl, gos_l, knS_l, fwS_l, gos_l] at s7 z3
      exact ⟨M7, over (of_decide_eq_true z3), MPo.f (by unfold pAnsw; simp only [y1, pB_r, fa, if_true]) (f07.lf C) s7⟩
    | false =>
    rw [fa, fwS_f, gos_r] at s7 z3 r5
    cases y2 : pKn tp n nm 1 (tkE tp n (tkE tp n q)) with
    | inl e =>
      rw [knS_f y2, fwS_l, gos_l] at s7 z3
      exact ⟨M7, over (of_decide_eq_true z3), MPo.f (by unfold pAnsw; simp only [y1, y2, pB_r, pB_l, fa, Bool.false_eq_true, if_false]) (f07.lf C) s7⟩
    | inr b' =>
    have eb := r5 _ b' rfl y2
    subst eb
    rw [knS_s y2] at s7 z3
    cases fb : fl 3 b with
    | true =>
      rw [fb, fwS_t, show flw tp n 3 (.inr (tkE tp n (tkE tp n q))) = .inl (3, tkP tp n (tkE tp n (tkE tp n q))) from rfl, gos_l] at s7 z3
      exact ⟨M7, over (of_decide_eq_true z3), MPo.f (by unfold pAnsw; simp only [y1, y2, pB_r, fa, fb, Bool.false_eq_true, if_false, if_true]) (f07.lf C) s7⟩
    | false =>
    rw [fb, fwS_f, gos_r] at s7 z3
    have z5 : ¬ z = 5 := of_decide_eq_false z3
    have ha := pKn_row K y1
    have hb := pKn_row K y2
    obtain ⟨M8, hM8⟩ : ∃ M8, M8 = pI (pI (pI (pI M7 (C + 8) a (n32 1)) (C + 8) b (n32 1)) (C + 12) a (n32 b)) (C + 12) b (n32 a) := ⟨_, rfl⟩
    have k8 : ∀ x j, ¬ ((x = C + 12 ∧ (j = a ∨ j = b)) ∨ (x = C + 8 ∧ (j = a ∨ j = b))) → vi M8 x j = vi M7 x j := fun x j hn => by rw [hM8, vi_pI, if_neg (by omega), vi_pI, if_neg (by omega), vi_pI, if_neg (by omega), vi_pI, if_neg (by omega)]
    have l8 : vl M8 = vl M7 := by rw [hM8]; rfl
    have f8 : LF M7 M8 X C := by
      refine ⟨?_, fun j hj => k8 _ _ (by omega)⟩
      rw [hM8]
      exact ((((Fr.refl (mS X C) M7).pI _ _ (Or.inr ⟨by omega, by omega⟩)).pI _ _ (Or.inr ⟨by omega, by omega⟩)).pI _ _ (Or.inr ⟨by omega, by omega⟩)).pI _ _ (Or.inr ⟨by omega, by omega⟩)
    have s8 : MS M8 X tp n (.inr (tkE tp n (tkE tp n (tkE tp n q)))) := s7.mv (fun j => k8 _ _ (by omega)) (by rw [l8])
    refine ⟨M8, ?_, MPo.s (rd := (plA p a b, lo, nm, setF (setF fl 3 a) 3 b)) (by unfold pAnsw; simp only [y1, y2, pB_r, fa, fb, Bool.false_eq_true, if_false]) ((f07.lf C).trans f8) s8 ⟨?_, ?_, ?_, fun u v hu hv => ?_, fun u i hu hi => ?_, fun u hu => ?_, fun u hu => ?_, fun r hr => ?_, fun r hr => ?_, fun r hr hk => ?_⟩⟩
    · apply h_eq
      delta f_X10_readAnswers
      rw [an_eq]
      unfold anT
      simp (disch := omega) only [hR_d, hT_d, hI_t, hI_f, hVI_s, hVL_s, hVR_s, hVT_s, hVV_s, hO_s, hB_0, hB_1, hB_2, hB_r, hU_0, hU_1, hU_2, hU_r, hX_r, hL_0, hL_1, hL_2, hL_r, hC_s, h_k0, h_k1, h_k2, h_k3, h_k4, h_k5, h_k6, h_k7, h_k8, h_k9, h_k10, h_k11, h_k12, h_k14, h_k16, h_k18, h_k20, h_k23, h_k24, h_k25, h_k32, h_k44, h_k48, h_k50, h_k54, h_k57, h_k58, h_k59, h_k60, h_k63, h_k97, h_k100, h_k122, h_k177, h_k255, h_k400, h_k450, h_k625, h_k649, h_k708, h_k800, h_k900, h_k2500, h_k22500, h_k45000, h_kn1, h_kn2, h_kJ, h_kU, h_eI, h_eL, h_eR, h_eT, h_b1, h_eZ, h_not, h_b2, h_b0, h_b0L, h_gI, h_gL, h_gN, h_gR, h_aI, h_aL, h_aR, h_aLen, h_tern, h_and, h_or, h_vN, h_vI, h_vJ, h_vA, h_cFv, h_cFs, h_toI, h_toL, h_toV, h_nO, h_nA, g_skip, g_brk, g_cnt, g_retV, g_seq, g_if, g_setI, g_setR, g_setL, g_inc, g_putI, g_putZ, g_putL, g_putR, g_upI, g_AI, g_AL, g_AR, g_UA, g_exp, g_retI, g_retL, g_retZ, g_scope, g_unBrk, g_sup, h_fn, argE_n, argE_i, argE_r, argE_l, argE_a, sto_0, sto_s, sto_n0, sto_ns, isL_i, isL_r, isL_n, isL_a, isL_l, isL_0, rcv_r, rcv_a, List.getElem?_cons_zero, List.getElem?_cons_succ, List.getElem?_nil, List.set_cons_zero, List.set_cons_succ, List.take_succ_cons, List.take_zero, List.take_nil, List.length_cons, List.length_nil, List.nil_append, List.cons_append, Nat.reduceAdd, Nat.reduceSub, Nat.reduceLT, Nat.reduceEqDiff, Nat.reduceLeDiff, Nat.zero_add, Nat.lt_irrefl, Nat.succ_sub_one, and_true, true_and, and_false, false_and, not_false_eq_true, not_true_eq_false, Bool.false_eq_true, Bool.not_true, Bool.not_false, Bool.not_eq_true', Bool.true_eq_false, decide_true, decide_false, decide_eq_true_eq, decide_eq_false_iff_not, Option.some.injEq, and_self, Nat.add_one_sub_one, Nat.lt_add_one, Nat.zero_lt_succ, Value.int.injEq, Value.ref.injEq, Value.long.injEq, exists_eq_left', exists_eq_left, Sum.inl.injEq, Sum.inr.injEq, i2z_b2i, h_vS, h_kN, n32_add, n32_mul, n32_inc, n_iEq, n_iNe, n_iLt, n_iLe, n_iGt, n_iGe, n_zEq, n_zLt, n_zLe, n_zGt, n_zGe, n_inb, n32_clamp, tg_pI, tg_pL, tg_pR, vr_pI, vr_pL, vl_pI, vl_pR, vi_pL, vi_pR, mN_pI, mN_pL, mN_pR, mU_pI, mU_pL, mU_pR, h.T.t, h_of e1, h1.T.t, h_of e2, h2.T.t, e3 [.ref X, .int (n32 a)] rfl rfl, h3.T.t, h_of e4, h4.T.t, h_of e5, h5.T.t, e6 [.ref X, .int (n32 a), .int (n32 b)] rfl rfl, h6.T.t, h_of e7, h7.T.t, z1, z5, h7.r4, h7.D.t, h7.D.r16, h7.D.t8, h7.D.r20, h7.D.t12, a8, b8, nar, n1_and, Nat.reduceEqDiff, if_false, if_true, ← hM8]
    · have V7' : ClothV (pI (pI M7 (C + 8) a (n32 1)) (C + 8) b (n32 1)) C p := Q7.V.kp (fun x j hn => by rw [vi_pI, if_neg (by omega), vi_pI, if_neg (by omega)])
      rw [hM8]
      exact V7'.u_an K.O ha hb (fun x j hn => by rw [vi_pI, if_neg (by omega), vi_pI, if_neg (by omega)]) (fun ne => by rw [vi_pI, if_neg (by omega), vi_self]) (vi_self _ _ _ _)
    · exact ⟨by rw [k8 _ _ (by omega)]; exact Q7.N.nn, Q7.N.n14, fun i hi => by rw [l8, k8 _ _ (by omega), k8 _ _ (by omega)]; exact Q7.N.nw i hi, Q7.N.ok⟩
    · show _ = b2i (setF (setF fl 3 a) 3 b 0 0)
      rw [k8 _ _ (by omega), setF_g (by decide), setF_g (by decide)]; exact Q7.told
    · rw [k8 _ _ (by omega)]; exact Q7.st u v hu hv
    · rw [k8 _ _ (by omega)]; exact Q7.wv u i hu hi
    · rw [k8 _ _ (by omega)]; exact Q7.wm u hu
    · show _ = b2i (setF (setF fl 3 a) 3 b 1 u)
      rw [k8 _ _ (by omega), setF_g (by decide), setF_g (by decide)]; exact Q7.iw u hu
    · show _ = b2i (setF (setF fl 3 a) 3 b 2 r)
      rw [k8 _ _ (by omega), setF_g (by decide), setF_g (by decide)]; exact Q7.inx r hr
    · show _ = b2i (setF (setF fl 3 a) 3 b 3 r)
      have := Q7.ian r hr
      rw [hM8, vi_ne (by omega), vi_ne (by omega), vi_pI, vi_pI, this]
      unfold setF
      by_cases eb : r = b
      · rw [if_pos ⟨rfl, eb⟩, if_pos ⟨rfl, eb⟩]; rfl
      · rw [if_neg (show ¬ (C + 8 = C + 8 ∧ r = b) from fun z => eb z.2), if_neg (show ¬ (3 = 3 ∧ r = b) from fun z => eb z.2)]
        by_cases ea : r = a
        · rw [if_pos ⟨rfl, ea⟩, if_pos ⟨rfl, ea⟩]; rfl
        · rw [if_neg (show ¬ (C + 8 = C + 8 ∧ r = a) from fun z => ea z.2), if_neg (show ¬ (3 = 3 ∧ r = a) from fun z => ea z.2)]
    · have hk : pK p ≤ r := hk
      rw [k8 _ _ (by omega)]; exact Q7.z11 r hr hk
end
