/-! THE REFERENCE'S CLOTH -/
noncomputable def clF : Sv := (sIf (b1 zGt (gI 11 13 (eR 0))) (sSeq (sPutI 11 1 (eR 0) (eK (4 : Int32))) (sSeq (sPutI 11 2 (eR 0) (gI 11 14 (eR 0))) (sRetI (eK (-1 : Int32))))) sSkip)
noncomputable def clE : Sv := (sSeq (sPutR 11 3 (eR 0) (gR 11 4 (eR 0))) (sSeq cwT (sSeq ccT (sSeq (sPutI 11 19 (eR 0) (eK (0 : Int32))) (sSeq (sPutI 11 20 (eR 0) (eK (0 : Int32))) (sRetI (toI (cFv 11 f_X10_good (vI (vA vN (eR 0)) (gI 10 3 (gR 11 3 (eR 0)))))))))))) 
noncomputable def clG : Sv := (sSeq (sPutI 11 7 (eR 0) (eI 1)) (sSeq (sPutI 11 6 (eR 0) (eK (0 : Int32))) (sSeq (sPutI 11 8 (eR 0) (eK (0 : Int32))) (sSeq (sPutI 11 13 (eR 0) (eK (0 : Int32))) (sSeq (sPutR 11 4 (eR 0) (nO 10 30 f_X9_init)) (sSeq (sPutI 11 9 (eR 0) (eK (0 : Int32))) (sSeq (sExp (toV (cFv 11 f_X10_goesOn (vA vN (eR 0))))) (sSeq (sExp (toV (cFv 11 f_X10_readAll (vA vN (eR 0))))) (sSeq clF clE)))))))))
theorem mcl_eq : b_X10_cloth = (sSeq (sPutI 11 0 (eR 0) (eK (0 : Int32))) (sSeq (sIf (cOr (b1 zLt (eI 1)) (b2 iGt (eI 1) (gI 11 6 (eR 0)))) (sRetI (toI (cFv 11 f_X10_refused (vI (vA vN (eR 0)) (eK (2 : Int32)))))) sSkip) clG)) := rfl
section
variable {M m : qM} {X C : Nat} {A : Ab}
theorem r_cloth (h : Mdl M X C A) (h9 : aTl A ≤ 900) (hb : ∀ i, i < aTl A → isBy (aTp A i)) (hX : X + 13 < mN M) (hC : aTd A = true → C + 21 < mN M) (n : Int32) : ∃ M' C', f_X10_cloth [.ref X, .int n] M = some (some (.int (clothA A n).2), M') ∧ Mdl M' X C' (clothA A n).1 ∧ (aTd (clothA A n).1 = true → C' + 21 < mN M') ∧ GX M M' X := by
  have tl' : vi (pI M X 0 (n32 0)) X 6 = n32 (aTl A) := by rw [vi_nk (by decide)]; exact h.tl
  have T0 : MdlT (pI M X 0 (n32 0)) X := h.T
  cases e : inO true (aTl A + 1) n with
  | none =>
    have nn := inO_none e
    rw [clothA_n e]
    have mr := MR.ro h (t := 2) (by decide)
    refine ⟨mdR M X 2, C, ?_, mr.1, fun z => hC z, Nat.le_refl _, Nat.le_add_right _ _, Nat.le_refl _, Nat.le_add_right _ _, fun a ha => by rw [mr.2.tg], fun a ha hx k => mr.2.vi hx k, fun a ha hx k => mr.2.vl hx k, fun a ha hx k => by rw [mr.2.vr]⟩
    apply h_eq
    delta f_X10_cloth
    rw [mcl_eq]
    cases z : zLt n
    · have g : iGt n (n32 (aTl A)) = true := by
        have n0 : 0 ≤ n := Int32.not_lt.mp (of_decide_eq_false z)
        have en := n32_of n0
        have hc := clamp_lt n
        unfold iGt
        rw [decide_eq_true_eq]
        rw [en, n32_lt (by omega) hc]
        refine Nat.lt_of_not_le fun w => nn ⟨rfl, n0, ?_⟩
        rw [en, n32_lt hc (by omega)]
        omega
      simp (disch := omega) only [hR_d, hT_d, hI_t, hI_f, hVI_s, hVL_s, hVR_s, hVT_s, hVV_s, hO_s, hB_0, hB_1, hB_2, hB_r, hU_0, hU_1, hU_2, hU_r, hX_r, hL_0, hL_1, hL_2, hL_r, hC_s, h_k0, h_k1, h_k2, h_k3, h_k4, h_k5, h_k6, h_k7, h_k8, h_k9, h_k10, h_k11, h_k12, h_k14, h_k16, h_k18, h_k20, h_k23, h_k24, h_k25, h_k32, h_k44, h_k48, h_k50, h_k54, h_k57, h_k58, h_k59, h_k60, h_k63, h_k97, h_k100, h_k122, h_k177, h_k255, h_k400, h_k450, h_k625, h_k649, h_k708, h_k800, h_k900, h_k2500, h_k22500, h_k45000, h_kn1, h_kn2, h_kJ, h_kU, h_eI, h_eL, h_eR, h_eT, h_b1, h_eZ, h_not, h_b2, h_b0, h_b0L, h_gI, h_gL, h_gN, h_gR, h_aI, h_aL, h_aR, h_aLen, h_tern, h_and, h_or, h_vN, h_vI, h_vJ, h_vA, h_cFv, h_cFs, h_toI, h_toL, h_toV, h_nO, h_nA, g_skip, g_brk, g_cnt, g_retV, g_seq, g_if, g_setI, g_setR, g_setL, g_inc, g_putI, g_putZ, g_putL, g_putR, g_upI, g_AI, g_AL, g_AR, g_UA, g_exp, g_retI, g_retL, g_retZ, g_scope, g_unBrk, g_sup, h_fn, argE_n, argE_i, argE_r, argE_l, argE_a, sto_0, sto_s, sto_n0, sto_ns, isL_i, isL_r, isL_n, isL_a, isL_l, isL_0, rcv_r, rcv_a, List.getElem?_cons_zero, List.getElem?_cons_succ, List.getElem?_nil, List.set_cons_zero, List.set_cons_succ, List.take_succ_cons, List.take_zero, List.take_nil, List.length_cons, List.length_nil, List.nil_append, List.cons_append, Nat.reduceAdd, Nat.reduceSub, Nat.reduceLT, Nat.reduceEqDiff, Nat.reduceLeDiff, Nat.zero_add, Nat.lt_irrefl, Nat.succ_sub_one, and_true, true_and, and_false, false_and, not_false_eq_true, not_true_eq_false, Bool.false_eq_true, Bool.not_true, Bool.not_false, Bool.not_eq_true', Bool.true_eq_false, decide_true, decide_false, decide_eq_true_eq, decide_eq_false_iff_not, Option.some.injEq, and_self, Nat.add_one_sub_one, Nat.lt_add_one, Nat.zero_lt_succ, Value.int.injEq, Value.ref.injEq, Value.long.injEq, exists_eq_left', exists_eq_left, Sum.inl.injEq, Sum.inr.injEq, i2z_b2i, h_vS, h_kN, n32_add, n32_mul, n32_inc, tg_pI, tg_pL, tg_pR, vr_pI, vr_pL, vl_pI, vl_pR, vi_pL, vi_pR, mN_pI, mN_pL, mN_pR, mU_pI, mU_pL, mU_pR, h.T.t, tl', z, g, h_of (m_refused T0 (n32 2))]
      rfl
    · simp (disch := omega) only [hR_d, hT_d, hI_t, hI_f, hVI_s, hVL_s, hVR_s, hVT_s, hVV_s, hO_s, hB_0, hB_1, hB_2, hB_r, hU_0, hU_1, hU_2, hU_r, hX_r, hL_0, hL_1, hL_2, hL_r, hC_s, h_k0, h_k1, h_k2, h_k3, h_k4, h_k5, h_k6, h_k7, h_k8, h_k9, h_k10, h_k11, h_k12, h_k14, h_k16, h_k18, h_k20, h_k23, h_k24, h_k25, h_k32, h_k44, h_k48, h_k50, h_k54, h_k57, h_k58, h_k59, h_k60, h_k63, h_k97, h_k100, h_k122, h_k177, h_k255, h_k400, h_k450, h_k625, h_k649, h_k708, h_k800, h_k900, h_k2500, h_k22500, h_k45000, h_kn1, h_kn2, h_kJ, h_kU, h_eI, h_eL, h_eR, h_eT, h_b1, h_eZ, h_not, h_b2, h_b0, h_b0L, h_gI, h_gL, h_gN, h_gR, h_aI, h_aL, h_aR, h_aLen, h_tern, h_and, h_or, h_vN, h_vI, h_vJ, h_vA, h_cFv, h_cFs, h_toI, h_toL, h_toV, h_nO, h_nA, g_skip, g_brk, g_cnt, g_retV, g_seq, g_if, g_setI, g_setR, g_setL, g_inc, g_putI, g_putZ, g_putL, g_putR, g_upI, g_AI, g_AL, g_AR, g_UA, g_exp, g_retI, g_retL, g_retZ, g_scope, g_unBrk, g_sup, h_fn, argE_n, argE_i, argE_r, argE_l, argE_a, sto_0, sto_s, sto_n0, sto_ns, isL_i, isL_r, isL_n, isL_a, isL_l, isL_0, rcv_r, rcv_a, List.getElem?_cons_zero, List.getElem?_cons_succ, List.getElem?_nil, List.set_cons_zero, List.set_cons_succ, List.take_succ_cons, List.take_zero, List.take_nil, List.length_cons, List.length_nil, List.nil_append, List.cons_append, Nat.reduceAdd, Nat.reduceSub, Nat.reduceLT, Nat.reduceEqDiff, Nat.reduceLeDiff, Nat.zero_add, Nat.lt_irrefl, Nat.succ_sub_one, and_true, true_and, and_false, false_and, not_false_eq_true, not_true_eq_false, Bool.false_eq_true, Bool.not_true, Bool.not_false, Bool.not_eq_true', Bool.true_eq_false, decide_true, decide_false, decide_eq_true_eq, decide_eq_false_iff_not, Option.some.injEq, and_self, Nat.add_one_sub_one, Nat.lt_add_one, Nat.zero_lt_succ, Value.int.injEq, Value.ref.injEq, Value.long.injEq, exists_eq_left', exists_eq_left, Sum.inl.injEq, Sum.inr.injEq, i2z_b2i, h_vS, h_kN, n32_add, n32_mul, n32_inc, tg_pI, tg_pL, tg_pR, vr_pI, vr_pL, vl_pI, vl_pR, vi_pL, vi_pR, mN_pI, mN_pL, mN_pR, mU_pI, mU_pL, mU_pR, h.T.t, z, h_of (m_refused T0 (n32 2))]
      rfl
  | some k =>
    obtain ⟨-, hk, rfl⟩ := inO_some (by omega) e
    have z : zLt (n32 k) = false := n_zLt (by omega)
    obtain ⟨M1, e1, t1, b⟩ := cb_new hX k
    obtain ⟨M3, hM3⟩ : ∃ M3, M3 = pI (pR M1 X 4 (some (mN M))) X 9 (n32 0) := ⟨_, rfl⟩
    rw [← hM3] at b
    have h3 := b.mb h hX (by omega) h9 hb
    have Q3 := b.qd
    obtain ⟨M4, e4, f4, s4, x13, x14⟩ := m_go h3 (q := 0) (s := 0) (by decide) b.x9 b.x8 (Nat.zero_le _)
    have S4 : MS M4 X (aTp A) k (.inr 0) := ⟨Nat.zero_le _, s4, by rw [x13]; exact b.x13⟩
    have h4 := f4.mb h3
    obtain ⟨M5, e5, F5, g5⟩ := r_readAll h4 S4 (Q3.xf h3 f4)
    have h5 := F5.mb h4
    have F35 : LF M3 M5 X (mN M) := (f4.lf _).trans F5
    have hcb : pI (pI (pI (pI (pI M X 0 (n32 0)) X 7 (n32 k)) X 6 (n32 0)) X 8 (n32 0)) X 13 (n32 0) = cbA M X k := rfl
    have T1 : tg M1 X = (11, 33) := t1.trans h.T.t
    have k5t : ∀ a, a < mN M → tg M5 a = tg M a := fun a ha => by rw [F35.1.tg]; exact b.kt a ha
    have k5i : ∀ a, a < mN M → a ≠ X → ∀ j, vi M5 a j = vi M a j := fun a ha hx j => by rw [F35.1.vi (by unfold mS; omega)]; exact b.ki a ha hx j
    have k5l : ∀ a, a < mN M → a ≠ X → ∀ j, vl M5 a j = vl M a j := fun a ha hx j => by rw [F35.1.vl (by unfold mS; omega)]; exact b.kl a ha j
    have k5r : ∀ a, a < mN M → ∀ j, vr M5 a j = if a = X ∧ j = 4 then some (mN M) else vr M a j := fun a ha j => by rw [F35.1.vr]; exact b.kr a ha j
    have k5x : ∀ j, (j < 8 ∧ j ≠ 0 ∧ j ≠ 6 ∧ j ≠ 7) ∨ 16 ≤ j → vi M5 X j = vi M X j := fun j hj => by rw [F35.2 j (by omega)]; exact b.x j (by omega)
    have x6 : vi M5 X 6 = n32 0 := by rw [F35.2 6 (by decide)]; exact b.x6
    have n5 : mN M5 = mN M + 22 := by show M5.1.1 = _; rw [F35.1.1]; exact b.nn
    have u5 : mU M5 = mU M + 204 := by show M5.1.2 = _; rw [F35.1.1]; exact b.uu
    cases er : pRead (aTp A) k with
    | inl x =>
      rw [er] at g5
      obtain ⟨y9, y13, y14⟩ := g5
      have ep := E1_All (tp := aTp A) (n := k) 901 rd0 0 x er
      have zg : zGt (n32 x.1) = true := by rw [n_zGt (by omega)]; exact decide_eq_true (by omega)
      have y14' : vi (pI M5 X 1 (n32 4)) X 14 = n32 x.2 := by rw [vi_nk (by decide)]; exact y14
      rw [clothA_l e er]
      obtain ⟨M6, hM6⟩ : ∃ M6, M6 = pI (pI M5 X 1 (n32 4)) X 2 (n32 x.2) := ⟨_, rfl⟩
      have k6 : ∀ a, a ≠ X → ∀ j, vi M6 a j = vi M5 a j := fun a ha j => by rw [hM6, vi_ne ha, vi_ne ha]
      have k6x : ∀ j, j ≠ 1 → j ≠ 2 → vi M6 X j = vi M5 X j := fun j h1 h2 => by rw [hM6, vi_nk h2, vi_nk h1]
      have t6 : tg M6 = tg M5 := by rw [hM6]; rfl
      have r6 : vr M6 = vr M5 := by rw [hM6]; rfl
      have l6 : vl M6 = vl M5 := by rw [hM6]; rfl
      have T6 : MdlT M6 X := h.T.mv (fun a ha => by rw [t6]; exact k5t a (by omega)) (fun j hj => by rw [r6, k5r X (by omega), if_neg (by omega)])
      refine ⟨M6, C, ?_, ⟨T6, ?_, ?_, ?_, ?_, fun i hi => absurd hi (Nat.not_lt_zero _), fun ht => ?_, fun ht => ?_, ?_, h.nac12, ?_, h.nmk3, fun i lo hi => ?_, fun i lo hi => ?_⟩, fun ht => ?_, ?_⟩
      · apply h_eq
        delta f_X10_cloth
        rw [mcl_eq]
        unfold clG clF
        simp (disch := omega) only [hR_d, hT_d, hI_t, hI_f, hVI_s, hVL_s, hVR_s, hVT_s, hVV_s, hO_s, hB_0, hB_1, hB_2, hB_r, hU_0, hU_1, hU_2, hU_r, hX_r, hL_0, hL_1, hL_2, hL_r, hC_s, h_k0, h_k1, h_k2, h_k3, h_k4, h_k5, h_k6, h_k7, h_k8, h_k9, h_k10, h_k11, h_k12, h_k14, h_k16, h_k18, h_k20, h_k23, h_k24, h_k25, h_k32, h_k44, h_k48, h_k50, h_k54, h_k57, h_k58, h_k59, h_k60, h_k63, h_k97, h_k100, h_k122, h_k177, h_k255, h_k400, h_k450, h_k625, h_k649, h_k708, h_k800, h_k900, h_k2500, h_k22500, h_k45000, h_kn1, h_kn2, h_kJ, h_kU, h_eI, h_eL, h_eR, h_eT, h_b1, h_eZ, h_not, h_b2, h_b0, h_b0L, h_gI, h_gL, h_gN, h_gR, h_aI, h_aL, h_aR, h_aLen, h_tern, h_and, h_or, h_vN, h_vI, h_vJ, h_vA, h_cFv, h_cFs, h_toI, h_toL, h_toV, h_nO, h_nA, g_skip, g_brk, g_cnt, g_retV, g_seq, g_if, g_setI, g_setR, g_setL, g_inc, g_putI, g_putZ, g_putL, g_putR, g_upI, g_AI, g_AL, g_AR, g_UA, g_exp, g_retI, g_retL, g_retZ, g_scope, g_unBrk, g_sup, h_fn, argE_n, argE_i, argE_r, argE_l, argE_a, sto_0, sto_s, sto_n0, sto_ns, isL_i, isL_r, isL_n, isL_a, isL_l, isL_0, rcv_r, rcv_a, List.getElem?_cons_zero, List.getElem?_cons_succ, List.getElem?_nil, List.set_cons_zero, List.set_cons_succ, List.take_succ_cons, List.take_zero, List.take_nil, List.length_cons, List.length_nil, List.nil_append, List.cons_append, Nat.reduceAdd, Nat.reduceSub, Nat.reduceLT, Nat.reduceEqDiff, Nat.reduceLeDiff, Nat.zero_add, Nat.lt_irrefl, Nat.succ_sub_one, and_true, true_and, and_false, false_and, not_false_eq_true, not_true_eq_false, Bool.false_eq_true, Bool.not_true, Bool.not_false, Bool.not_eq_true', Bool.true_eq_false, decide_true, decide_false, decide_eq_true_eq, decide_eq_false_iff_not, Option.some.injEq, and_self, Nat.add_one_sub_one, Nat.lt_add_one, Nat.zero_lt_succ, Value.int.injEq, Value.ref.injEq, Value.long.injEq, exists_eq_left', exists_eq_left, Sum.inl.injEq, Sum.inr.injEq, i2z_b2i, h_vS, h_kN, n32_add, n32_mul, n32_inc, n_iEq, n_iNe, n_iLt, n_iLe, n_iGt, n_iGe, n_zEq, n_zLt, n_zLe, n_zGt, n_zGe, n_inb, n32_clamp, tg_pI, tg_pL, tg_pR, vr_pI, vr_pL, vl_pI, vl_pR, vi_pL, vi_pR, mN_pI, mN_pL, mN_pR, mU_pI, mU_pL, mU_pR, h.T.t, tl', z, show ¬ aTl A < k by omega, hcb, e1, T1, ← hM3, h3.T.t, h_of e4, h4.T.t, h_of e5, h5.T.t, y13, zg, y14', ← hM6]
      · rw [hM6, vi_nk (by decide), vi_self]; rfl
      · rw [hM6, vi_self]; rfl
      · rw [k6x 13 (by decide) (by decide)]; exact y13
      · rw [k6x 6 (by decide) (by decide)]; exact x6
      · obtain ⟨a1, a2⟩ := h.N ht
        exact ⟨by rw [r6, k5r X (by omega), if_neg (by omega)]; exact a1, a2⟩
      · have Y := h.Y ht
        have hc := hC ht
        have dY := Y.d
        exact ⟨T6, by rw [r6, k5r X (by omega), if_neg (by omega)]; exact Y.r3, Y.D.mv (fun a ha => by rw [t6]; exact k5t a (by omega)) (fun j hj => by rw [r6, k5r C (by omega), if_neg (by omega)]), Y.V.mv (fun a j ha => by rw [k6 a (by omega)]; exact k5i a (by omega) (by omega) j), Y.O, Y.W.mv (fun j => by rw [k6 _ (by omega)]; exact k5i _ (by omega) (by omega) j), Y.L, dY⟩
      · rw [k6x 19 (by decide) (by decide), k5x 19 (by decide)]; exact h.nac
      · rw [k6x 20 (by decide) (by decide), k5x 20 (by decide)]; exact h.nmk
      · exact ⟨(h.ac i lo hi).1.mv (fun j => by rw [k6 _ (by omega)]; exact k5i _ (by omega) (by omega) j), (h.ac i lo hi).2⟩
      · exact ⟨(h.mk i lo hi).1.mv (fun j => by rw [k6 _ (by omega)]; exact k5i _ (by omega) (by omega) j), (h.mk i lo hi).2⟩
      · have := hC ht
        have : mN M6 = mN M5 := by rw [hM6]; rfl
        omega
      · have nM : mN M6 = mN M5 := by rw [hM6]; rfl
        have uM : mU M6 = mU M5 := by rw [hM6]; rfl
        exact ⟨by omega, by omega, by omega, by omega, fun a ha => by rw [t6]; exact k5t a ha, fun a ha hx j => by rw [k6 a (by omega)]; exact k5i a ha (by omega) j, fun a ha hx j => by rw [l6]; exact k5l a ha (by omega) j, fun a ha hx j => by rw [r6, k5r a ha, if_neg (fun z => hx z.1)]⟩
    | inr rd =>
      rw [er] at g5
      obtain ⟨y13, Q5, K5⟩ := g5
      have w := pAll_w (tp := aTp A) (n := k) 901 rd0 0 er
      have zg : zGt (n32 0) = false := by decide
      rw [clothA_r e er]
      obtain ⟨M6, hM6⟩ : ∃ M6, M6 = pR M5 X 3 (some (mN M)) := ⟨_, rfl⟩
      have r6 : ∀ a j, vr M6 a j = if a = X ∧ j = 3 then some (mN M) else vr M5 a j := fun a j => by rw [hM6, vr_pR]
      have t6 : tg M6 = tg M5 := by rw [hM6]; rfl
      have i6 : vi M6 = vi M5 := by rw [hM6]; rfl
      have l6 : vl M6 = vl M5 := by rw [hM6]; rfl
      have T6 : MdlT M6 X := h5.T.mv (fun a ha => by rw [t6]) (fun j hj => by rw [r6, if_neg (by omega)])
      have D6 : ClothT M6 (mN M) := h5.D.mv (fun a ha => by rw [t6]) (fun j hj => by rw [r6, if_neg (by omega)])
      have W6 : WC M6 X (mN M) rd.2.1 := ⟨T6, by rw [r6, if_pos ⟨rfl, rfl⟩], D6, hX, fun s c hs hc => by rw [i6]; exact Q5.st s c hs hc, fun s i hs hi => by rw [i6]; exact Q5.wv s i hs hi, fun s hs => by rw [i6]; exact Q5.wm s hs, K5.s12⟩
      have kk := K5.O.kinds
      suffices key : hF f_X10_cloth [.ref X, .int (n32 k)] M (fun v M' => v = some (.int (n32 (pK rd.1))) ∧ Mdl M' X (mN M) (true, rd.1, rd.2.1, [], [], 0, A.2.2.2.2.2.2.1, 0, 0, 0) ∧ mN M' = mN M + 22 ∧ GX M M' X) () by
        obtain ⟨v, M', ee, rfl, g1, g2, g3⟩ := h_ex key
        exact ⟨M', mN M, ee, g1, fun _ => by omega, g3⟩
      delta f_X10_cloth
      rw [mcl_eq]
      unfold clG clF clE
      simp (disch := omega) only [hR_d, hT_d, hI_t, hI_f, hVI_s, hVL_s, hVR_s, hVT_s, hVV_s, hO_s, hB_0, hB_1, hB_2, hB_r, hU_0, hU_1, hU_2, hU_r, hX_r, hL_0, hL_1, hL_2, hL_r, hC_s, h_k0, h_k1, h_k2, h_k3, h_k4, h_k5, h_k6, h_k7, h_k8, h_k9, h_k10, h_k11, h_k12, h_k14, h_k16, h_k18, h_k20, h_k23, h_k24, h_k25, h_k32, h_k44, h_k48, h_k50, h_k54, h_k57, h_k58, h_k59, h_k60, h_k63, h_k97, h_k100, h_k122, h_k177, h_k255, h_k400, h_k450, h_k625, h_k649, h_k708, h_k800, h_k900, h_k2500, h_k22500, h_k45000, h_kn1, h_kn2, h_kJ, h_kU, h_eI, h_eL, h_eR, h_eT, h_b1, h_eZ, h_not, h_b2, h_b0, h_b0L, h_gI, h_gL, h_gN, h_gR, h_aI, h_aL, h_aR, h_aLen, h_tern, h_and, h_or, h_vN, h_vI, h_vJ, h_vA, h_cFv, h_cFs, h_toI, h_toL, h_toV, h_nO, h_nA, g_skip, g_brk, g_cnt, g_retV, g_seq, g_if, g_setI, g_setR, g_setL, g_inc, g_putI, g_putZ, g_putL, g_putR, g_upI, g_AI, g_AL, g_AR, g_UA, g_exp, g_retI, g_retL, g_retZ, g_scope, g_unBrk, g_sup, h_fn, argE_n, argE_i, argE_r, argE_l, argE_a, sto_0, sto_s, sto_n0, sto_ns, isL_i, isL_r, isL_n, isL_a, isL_l, isL_0, rcv_r, rcv_a, List.getElem?_cons_zero, List.getElem?_cons_succ, List.getElem?_nil, List.set_cons_zero, List.set_cons_succ, List.take_succ_cons, List.take_zero, List.take_nil, List.length_cons, List.length_nil, List.nil_append, List.cons_append, Nat.reduceAdd, Nat.reduceSub, Nat.reduceLT, Nat.reduceEqDiff, Nat.reduceLeDiff, Nat.zero_add, Nat.lt_irrefl, Nat.succ_sub_one, and_true, true_and, and_false, false_and, not_false_eq_true, not_true_eq_false, Bool.false_eq_true, Bool.not_true, Bool.not_false, Bool.not_eq_true', Bool.true_eq_false, decide_true, decide_false, decide_eq_true_eq, decide_eq_false_iff_not, Option.some.injEq, and_self, Nat.add_one_sub_one, Nat.lt_add_one, Nat.zero_lt_succ, Value.int.injEq, Value.ref.injEq, Value.long.injEq, exists_eq_left', exists_eq_left, Sum.inl.injEq, Sum.inr.injEq, i2z_b2i, h_vS, h_kN, n32_add, n32_mul, n32_inc, n_iEq, n_iNe, n_iLt, n_iLe, n_iGt, n_iGe, n_zEq, n_zLt, n_zLe, n_zGt, n_zGe, n_inb, n32_clamp, tg_pI, tg_pL, tg_pR, vr_pI, vr_pL, vl_pI, vl_pR, vi_pL, vi_pR, mN_pI, mN_pL, mN_pR, mU_pI, mU_pL, mU_pR, h.T.t, tl', z, show ¬ aTl A < k by omega, hcb, e1, T1, ← hM3, h3.T.t, h_of e4, h4.T.t, h_of e5, h5.T.t, y13, zg, h5.r4, ← hM6]
      refine hS.mono (m_cw T6 (n32 k)) ?_
      rintro r e' M7 ⟨rfl, rfl, f7, z7⟩
      have W7 := W6.fr f7
      simp only [hR_d, hT_d, hI_t, hI_f, hVI_s, hVL_s, hVR_s, hVT_s, hVV_s, hO_s, hB_0, hB_1, hB_2, hB_r, hU_0, hU_1, hU_2, hU_r, hX_r, hL_0, hL_1, hL_2, hL_r, hC_s, h_k0, h_k1, h_k2, h_k3, h_k4, h_k5, h_k6, h_k7, h_k8, h_k9, h_k10, h_k11, h_k12, h_k14, h_k16, h_k18, h_k20, h_k23, h_k24, h_k25, h_k32, h_k44, h_k48, h_k50, h_k54, h_k57, h_k58, h_k59, h_k60, h_k63, h_k97, h_k100, h_k122, h_k177, h_k255, h_k400, h_k450, h_k625, h_k649, h_k708, h_k800, h_k900, h_k2500, h_k22500, h_k45000, h_kn1, h_kn2, h_kJ, h_kU, h_eI, h_eL, h_eR, h_eT, h_b1, h_eZ, h_not, h_b2, h_b0, h_b0L, h_gI, h_gL, h_gN, h_gR, h_aI, h_aL, h_aR, h_aLen, h_tern, h_and, h_or, h_vN, h_vI, h_vJ, h_vA, h_cFv, h_cFs, h_toI, h_toL, h_toV, h_nO, h_nA, g_skip, g_brk, g_cnt, g_retV, g_seq, g_if, g_setI, g_setR, g_setL, g_inc, g_putI, g_putZ, g_putL, g_putR, g_upI, g_AI, g_AL, g_AR, g_UA, g_exp, g_retI, g_retL, g_retZ, g_scope, g_unBrk, g_sup, h_fn, argE_n, argE_i, argE_r, argE_l, argE_a, sto_0, sto_s, sto_n0, sto_ns, isL_i, isL_r, isL_n, isL_a, isL_l, isL_0, rcv_r, rcv_a, List.getElem?_cons_zero, List.getElem?_cons_succ, List.getElem?_nil, List.set_cons_zero, List.set_cons_succ, List.take_succ_cons, List.take_zero, List.take_nil, List.length_cons, List.length_nil, List.nil_append, List.cons_append, Nat.reduceAdd, Nat.reduceSub, Nat.reduceLT, Nat.reduceEqDiff, Nat.reduceLeDiff, Nat.zero_add, Nat.lt_irrefl, Nat.succ_sub_one, and_true, true_and, and_false, false_and, not_false_eq_true, not_true_eq_false, Bool.false_eq_true, Bool.not_true, Bool.not_false, Bool.not_eq_true', Bool.true_eq_false, decide_true, decide_false, decide_eq_true_eq, decide_eq_false_iff_not, Option.some.injEq, and_self, Nat.add_one_sub_one, Nat.lt_add_one, Nat.zero_lt_succ, Value.int.injEq, Value.ref.injEq, Value.long.injEq, exists_eq_left', exists_eq_left, Sum.inl.injEq, Sum.inr.injEq, i2z_b2i, h_vS, h_kN]
      have lw0 : ∀ s c, s < 2 → c < 2 → lW rd.2.1 s c = 0 := fun s c _ _ => by
        show rd.2.1.2.2.2.1 s c = 0
        rw [w]; rfl
      have lk0 : lK rd.2.1 = 0 := by
        show rd.2.1.2.2.2.2 = 0
        rw [w]; rfl
      refine hS.mono (m_ccT W7 (n32 k) z7 lw0 lk0) ?_
      rintro r e' M8 ⟨rfl, rfl, f8, L8⟩
      have W8 := W7.fr f8
      have F8 := f7.trans f8
      obtain ⟨M9, hM9⟩ : ∃ M9, M9 = pI (pI M8 X 19 (n32 0)) X 20 (n32 0) := ⟨_, rfl⟩
      have f9 : Fr (fun a => a = X) M8 M9 := by rw [hM9]; exact ((Fr.refl (fun a => a = X) M8).pI _ _ rfl).pI _ _ rfl
      have T9 := W8.T.fr f9
      have kd : vi M9 (mN M) 3 = n32 (pK rd.1) := by rw [f9.vi (by omega), F8.vi (by omega), i6]; exact Q5.V.kinds
      have r39 : vr M9 X 3 = some (mN M) := by rw [f9.vr]; exact W8.r3
      have D9 := W8.D.fr f9
      simp (disch := omega) only [hR_d, hT_d, hI_t, hI_f, hVI_s, hVL_s, hVR_s, hVT_s, hVV_s, hO_s, hB_0, hB_1, hB_2, hB_r, hU_0, hU_1, hU_2, hU_r, hX_r, hL_0, hL_1, hL_2, hL_r, hC_s, h_k0, h_k1, h_k2, h_k3, h_k4, h_k5, h_k6, h_k7, h_k8, h_k9, h_k10, h_k11, h_k12, h_k14, h_k16, h_k18, h_k20, h_k23, h_k24, h_k25, h_k32, h_k44, h_k48, h_k50, h_k54, h_k57, h_k58, h_k59, h_k60, h_k63, h_k97, h_k100, h_k122, h_k177, h_k255, h_k400, h_k450, h_k625, h_k649, h_k708, h_k800, h_k900, h_k2500, h_k22500, h_k45000, h_kn1, h_kn2, h_kJ, h_kU, h_eI, h_eL, h_eR, h_eT, h_b1, h_eZ, h_not, h_b2, h_b0, h_b0L, h_gI, h_gL, h_gN, h_gR, h_aI, h_aL, h_aR, h_aLen, h_tern, h_and, h_or, h_vN, h_vI, h_vJ, h_vA, h_cFv, h_cFs, h_toI, h_toL, h_toV, h_nO, h_nA, g_skip, g_brk, g_cnt, g_retV, g_seq, g_if, g_setI, g_setR, g_setL, g_inc, g_putI, g_putZ, g_putL, g_putR, g_upI, g_AI, g_AL, g_AR, g_UA, g_exp, g_retI, g_retL, g_retZ, g_scope, g_unBrk, g_sup, h_fn, argE_n, argE_i, argE_r, argE_l, argE_a, sto_0, sto_s, sto_n0, sto_ns, isL_i, isL_r, isL_n, isL_a, isL_l, isL_0, rcv_r, rcv_a, List.getElem?_cons_zero, List.getElem?_cons_succ, List.getElem?_nil, List.set_cons_zero, List.set_cons_succ, List.take_succ_cons, List.take_zero, List.take_nil, List.length_cons, List.length_nil, List.nil_append, List.cons_append, Nat.reduceAdd, Nat.reduceSub, Nat.reduceLT, Nat.reduceEqDiff, Nat.reduceLeDiff, Nat.zero_add, Nat.lt_irrefl, Nat.succ_sub_one, and_true, true_and, and_false, false_and, not_false_eq_true, not_true_eq_false, Bool.false_eq_true, Bool.not_true, Bool.not_false, Bool.not_eq_true', Bool.true_eq_false, decide_true, decide_false, decide_eq_true_eq, decide_eq_false_iff_not, Option.some.injEq, and_self, Nat.add_one_sub_one, Nat.lt_add_one, Nat.zero_lt_succ, Value.int.injEq, Value.ref.injEq, Value.long.injEq, exists_eq_left', exists_eq_left, Sum.inl.injEq, Sum.inr.injEq, i2z_b2i, h_vS, h_kN, n32_add, n32_mul, n32_inc, n_iEq, n_iNe, n_iLt, n_iLe, n_iGt, n_iGe, n_zEq, n_zLt, n_zLe, n_zGt, n_zGe, n_inb, n32_clamp, tg_pI, tg_pL, tg_pR, vr_pI, vr_pL, vl_pI, vl_pR, vi_pL, vi_pR, mN_pI, mN_pL, mN_pR, mU_pI, mU_pL, mU_pR, W8.T.t, ← hM9, T9.t, r39, D9.t, kd, h_of (m_good T9 (n32 (pK rd.1)))]
      obtain ⟨M', hM'⟩ : ∃ M', M' = pI (pI M9 X 1 (n32 0)) X 2 (-1) := ⟨_, rfl⟩
      rw [← hM']
      have f10 : Fr (fun a => a = X) M9 M' := by rw [hM']; exact ((Fr.refl (fun a => a = X) M9).pI _ _ rfl).pI _ _ rfl
      have fX : Fr (fun a => a = X) M8 M' := f9.trans f10
      have FF : Fr (fun a => a = X ∨ a = X + 2) M6 M' := (F8.mono (fun a z => Or.inr z)).trans (fX.mono (fun a z => Or.inl z))
      have vx : ∀ j, j ≠ 1 → j ≠ 2 → j ≠ 19 → j ≠ 20 → vi M' X j = vi M5 X j := fun j a1 a2 a3 a4 => by
        rw [hM', vi_nk a2, vi_nk a1, hM9, vi_nk a4, vi_nk a3, F8.vi (by omega), i6]
      have n' : mN M' = mN M5 := by
        show M'.1.1 = _
        rw [FF.1, hM6]; rfl
      have n9' : mN M9 = mN M' := by rw [hM']; rfl
      have u' : mU M' = mU M5 := by
        show M'.1.2 = _
        rw [FF.1, hM6]; rfl
      refine ⟨⟨W8.T.fr fX, ?_, ?_, ?_, ?_, fun i hi => absurd hi (Nat.not_lt_zero _), (fun z => by cases z), fun _ => ⟨W8.T.fr fX, (by rw [fX.vr]; exact W8.r3), W8.D.fr fX, ?_, K5.O, L8.fr fX (by omega), K5.L, hX⟩, ?_, Nat.zero_le _, ?_, Nat.zero_le _, (fun i lo hi => by cases hi), (fun i lo hi => by cases hi)⟩, by omega, ⟨by omega, by omega, by omega, by omega, fun a ha => ?_, fun a ha hx j => ?_, fun a ha hx j => ?_, fun a ha hx j => ?_⟩⟩
      · rw [hM', vi_nk (by decide), vi_self]; rfl
      · rw [hM', vi_self]; rfl
      · rw [vx 13 (by decide) (by decide) (by decide) (by decide)]; exact y13
      · rw [vx 6 (by decide) (by decide) (by decide) (by decide)]; exact x6
      · exact Q5.V.mv (fun a j ha => by rw [FF.vi (by omega), i6])
      · rw [hM', vi_nk (by decide), vi_nk (by decide), hM9, vi_nk (by decide), vi_self]; rfl
      · rw [hM', vi_nk (by decide), vi_nk (by decide), hM9, vi_self]; rfl
      · rw [FF.tg, t6]; exact k5t a ha
      · rw [FF.vi (by omega), i6]; exact k5i a ha (by omega) j
      · rw [FF.vl (by omega), l6]; exact k5l a ha (by omega) j
      · rw [FF.vr, r6, if_neg (fun z => hx z.1), k5r a ha, if_neg (fun z => hx z.1)]
end
