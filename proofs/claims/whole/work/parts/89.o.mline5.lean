/-! THE REFERENCE'S READER: next -/
def cS (S : Nat → Bool) : Nat := (S 0).toNat + (S 1).toNat + (S 2).toNat + (S 3).toNat + (S 4).toNat + (S 5).toNat + (S 6).toNat + (S 7).toNat
theorem cS_le (S : Nat → Bool) : cS S ≤ 8 := by
  unfold cS
  have a := Bool.toNat_le (S 0); have b := Bool.toNat_le (S 1); have c := Bool.toNat_le (S 2); have d := Bool.toNat_le (S 3)
  have e := Bool.toNat_le (S 4); have f := Bool.toNat_le (S 5); have g := Bool.toNat_le (S 6); have h := Bool.toNat_le (S 7)
  omega
theorem cS_add {S : Nat → Bool} {x : Nat} (h : S x = false) (hx : x < 8) : cS (addS S x) = cS S + 1 := by
  have : x = 0 ∨ x = 1 ∨ x = 2 ∨ x = 3 ∨ x = 4 ∨ x = 5 ∨ x = 6 ∨ x = 7 := by omega
  rcases this with rfl | rfl | rfl | rfl | rfl | rfl | rfl | rfl <;> simp [cS, addS, h] <;> omega
noncomputable def hasC : Ev Bool := (b1 i2z (toI (cFs f_X10_has (vI (vI vN (eI 2)) (eI 4)))))
noncomputable def hasI : Sv := (sIf hasC (sExp (toV (cFv 11 f_X10_flaw (vI (vA vN (eR 0)) (eK (3 : Int32)))))) sSkip)
noncomputable def nxL : Sv := (sLoop (cAnd (b1 i2z (eI 3)) (b2 iNe (gI 11 9 (eR 0)) (eK (5 : Int32)))) (sScope 4 (sSeq (sSetI 4 (toI (cFv 11 f_X10_known (vI (vA vN (eR 0)) (eK (1 : Int32)))))) (sSeq hasI (sSeq (sExp (toV (cFv 11 f_X10_goesOn (vA vN (eR 0))))) (sSeq (sSetI 2 (b2 (fun x y => x ||| y) (eI 2) (b2 shlI (eK (1 : Int32)) (eI 4)))) (sSetI 3 (toI (cFv 11 f_X10_eatsSign (vI (vA vN (eR 0)) (eK (44 : Int32))))))))))) sSkip)
noncomputable def nxT : Sv := (sSeq (sAI 23 (gR 10 15 (gR 11 4 (eR 0))) (eI 1) (eK (1 : Int32))) (sAI 20 (gR 10 19 (gR 11 4 (eR 0))) (eI 1) (eI 2)))
theorem mnx_eq : b_X10_readNext = (sSeq (sScope 1 (sSeq (sExp (toV (cFv 11 f_X10_goesOn (vA vN (eR 0))))) (sSeq (sSetI 1 (toI (cFv 11 f_X10_known (vI (vA vN (eR 0)) (eK (1 : Int32)))))) (sSeq (fIf 15 1) (sSeq (sExp (toV (cFv 11 f_X10_goesOn (vA vN (eR 0))))) (sSeq (sExp (toV (cFv 11 f_X10_needs (vS (vA vN (eR 0)) (eK 30))))) (sSeq (sSetI 2 (eK (0 : Int32))) (sSeq (sSetI 3 (eK (1 : Int32))) (sSeq nxL (sSeq (sIf (b2 iEq (gI 11 9 (eR 0)) (eK (5 : Int32))) sRetV sSkip) nxT)))))))))) sRetV) := rfl
section
variable {M : qM} {X C n q : Nat} {tp : Nat → Int32} {σ : Pr Nat} {p : Pl} {lo : Lo} {nm : Nm} {fl : Fl}
theorem m_cIf (h : MB M X C n tp) (s : MS M X tp n σ) {c : Ev Bool} {e : qE} {b : Bool} (k : Nat) (k32 : Int32) (hk : k32 = n32 k) (h0 : e[0]? = some (.ref X)) (hc : ∀ (Q : Bool → qM → Prop), hE c e M Q () = Q b M) : ∃ M', XF M M' X ∧ MS M' X tp n (fwS tp n k b σ) ∧ ∀ (Q : Re → qE → qM → Prop) (u : Hd ((sIf c (sExp (toV (cFv 11 f_X10_flaw (vI (vA vN (eR 0)) (eK k32))))) sSkip), Q)), hS (sIf c (sExp (toV (cFv 11 f_X10_flaw (vI (vA vN (eR 0)) (eK k32))))) sSkip) e M Q u = Q (.inl 0) e M' := by
  subst hk
  cases b
  · rw [fwS_f]
    refine ⟨M, XF.refl _ _, s, fun Q u => ?_⟩
    rw [g_if, hc]
    simp only [hR_d, hT_d, hI_t, hI_f, hVI_s, hVL_s, hVR_s, hVT_s, hVV_s, hO_s, hB_0, hB_1, hB_2, hB_r, hU_0, hU_1, hU_2, hU_r, hX_r, hL_0, hL_1, hL_2, hL_r, hC_s, h_k0, h_k1, h_k2, h_k3, h_k4, h_k5, h_k6, h_k7, h_k8, h_k9, h_k10, h_k11, h_k12, h_k14, h_k16, h_k18, h_k20, h_k23, h_k24, h_k25, h_k32, h_k44, h_k48, h_k50, h_k54, h_k57, h_k58, h_k59, h_k60, h_k63, h_k97, h_k100, h_k122, h_k177, h_k255, h_k400, h_k450, h_k625, h_k649, h_k708, h_k800, h_k900, h_k2500, h_k22500, h_k45000, h_kn1, h_kn2, h_kJ, h_kU, h_eI, h_eL, h_eR, h_eT, h_b1, h_eZ, h_not, h_b2, h_b0, h_b0L, h_gI, h_gL, h_gN, h_gR, h_aI, h_aL, h_aR, h_aLen, h_tern, h_and, h_or, h_vN, h_vI, h_vJ, h_vA, h_cFv, h_cFs, h_toI, h_toL, h_toV, h_nO, h_nA, g_skip, g_brk, g_cnt, g_retV, g_seq, g_if, g_setI, g_setR, g_setL, g_inc, g_putI, g_putZ, g_putL, g_putR, g_upI, g_AI, g_AL, g_AR, g_UA, g_exp, g_retI, g_retL, g_retZ, g_scope, g_unBrk, g_sup, h_fn, argE_n, argE_i, argE_r, argE_l, argE_a, sto_0, sto_s, sto_n0, sto_ns, isL_i, isL_r, isL_n, isL_a, isL_l, isL_0, rcv_r, rcv_a, List.getElem?_cons_zero, List.getElem?_cons_succ, List.getElem?_nil, List.set_cons_zero, List.set_cons_succ, List.take_succ_cons, List.take_zero, List.take_nil, List.length_cons, List.length_nil, List.nil_append, List.cons_append, Nat.reduceAdd, Nat.reduceSub, Nat.reduceLT, Nat.reduceEqDiff, Nat.reduceLeDiff, Nat.zero_add, Nat.lt_irrefl, Nat.succ_sub_one, and_true, true_and, and_false, false_and, not_false_eq_true, not_true_eq_false, Bool.false_eq_true, Bool.not_true, Bool.not_false, Bool.not_eq_true', Bool.true_eq_false, decide_true, decide_false, decide_eq_true_eq, decide_eq_false_iff_not, Option.some.injEq, and_self, Nat.add_one_sub_one, Nat.lt_add_one, Nat.zero_lt_succ, Value.int.injEq, Value.ref.injEq, Value.long.injEq, exists_eq_left', exists_eq_left, Sum.inl.injEq, Sum.inr.injEq, i2z_b2i, h_vS, h_kN]
  · obtain ⟨M1, e1, f1, s1⟩ := m_flaw h s k
    rw [fwS_t]
    refine ⟨M1, f1, s1, fun Q u => ?_⟩
    rw [g_if, hc]
    simp (disch := omega) only [hR_d, hT_d, hI_t, hI_f, hVI_s, hVL_s, hVR_s, hVT_s, hVV_s, hO_s, hB_0, hB_1, hB_2, hB_r, hU_0, hU_1, hU_2, hU_r, hX_r, hL_0, hL_1, hL_2, hL_r, hC_s, h_k0, h_k1, h_k2, h_k3, h_k4, h_k5, h_k6, h_k7, h_k8, h_k9, h_k10, h_k11, h_k12, h_k14, h_k16, h_k18, h_k20, h_k23, h_k24, h_k25, h_k32, h_k44, h_k48, h_k50, h_k54, h_k57, h_k58, h_k59, h_k60, h_k63, h_k97, h_k100, h_k122, h_k177, h_k255, h_k400, h_k450, h_k625, h_k649, h_k708, h_k800, h_k900, h_k2500, h_k22500, h_k45000, h_kn1, h_kn2, h_kJ, h_kU, h_eI, h_eL, h_eR, h_eT, h_b1, h_eZ, h_not, h_b2, h_b0, h_b0L, h_gI, h_gL, h_gN, h_gR, h_aI, h_aL, h_aR, h_aLen, h_tern, h_and, h_or, h_vN, h_vI, h_vJ, h_vA, h_cFv, h_cFs, h_toI, h_toL, h_toV, h_nO, h_nA, g_skip, g_brk, g_cnt, g_retV, g_seq, g_if, g_setI, g_setR, g_setL, g_inc, g_putI, g_putZ, g_putL, g_putR, g_upI, g_AI, g_AL, g_AR, g_UA, g_exp, g_retI, g_retL, g_retZ, g_scope, g_unBrk, g_sup, h_fn, argE_n, argE_i, argE_r, argE_l, argE_a, sto_0, sto_s, sto_n0, sto_ns, isL_i, isL_r, isL_n, isL_a, isL_l, isL_0, rcv_r, rcv_a, List.getElem?_cons_zero, List.getElem?_cons_succ, List.getElem?_nil, List.set_cons_zero, List.set_cons_succ, List.take_succ_cons, List.take_zero, List.take_nil, List.length_cons, List.length_nil, List.nil_append, List.cons_append, Nat.reduceAdd, Nat.reduceSub, Nat.reduceLT, Nat.reduceEqDiff, Nat.reduceLeDiff, Nat.zero_add, Nat.lt_irrefl, Nat.succ_sub_one, and_true, true_and, and_false, false_and, not_false_eq_true, not_true_eq_false, Bool.false_eq_true, Bool.not_true, Bool.not_false, Bool.not_eq_true', Bool.true_eq_false, decide_true, decide_false, decide_eq_true_eq, decide_eq_false_iff_not, Option.some.injEq, and_self, Nat.add_one_sub_one, Nat.lt_add_one, Nat.zero_lt_succ, Value.int.injEq, Value.ref.injEq, Value.long.injEq, exists_eq_left', exists_eq_left, Sum.inl.injEq, Sum.inr.injEq, i2z_b2i, h_vS, h_kN, h_eK, h0, h.T.t, h_of e1]
theorem hasC_e {m : qM} {e : qE} {x : Int32} {y : Nat} (hy : y < 32) (h2 : e[2]? = some (.int x)) (h4 : e[4]? = some (.int (n32 y))) (Q : Bool → qM → Prop) : hE hasC e m Q () = Q (bt x y) m := by
  unfold hasC
  simp only [hR_d, hT_d, hI_t, hI_f, hVI_s, hVL_s, hVR_s, hVT_s, hVV_s, hO_s, hB_0, hB_1, hB_2, hB_r, hU_0, hU_1, hU_2, hU_r, hX_r, hL_0, hL_1, hL_2, hL_r, hC_s, h_k0, h_k1, h_k2, h_k3, h_k4, h_k5, h_k6, h_k7, h_k8, h_k9, h_k10, h_k11, h_k12, h_k14, h_k16, h_k18, h_k20, h_k23, h_k24, h_k25, h_k32, h_k44, h_k48, h_k50, h_k54, h_k57, h_k58, h_k59, h_k60, h_k63, h_k97, h_k100, h_k122, h_k177, h_k255, h_k400, h_k450, h_k625, h_k649, h_k708, h_k800, h_k900, h_k2500, h_k22500, h_k45000, h_kn1, h_kn2, h_kJ, h_kU, h_eI, h_eL, h_eR, h_eT, h_b1, h_eZ, h_not, h_b2, h_b0, h_b0L, h_gI, h_gL, h_gN, h_gR, h_aI, h_aL, h_aR, h_aLen, h_tern, h_and, h_or, h_vN, h_vI, h_vJ, h_vA, h_cFv, h_cFs, h_toI, h_toL, h_toV, h_nO, h_nA, g_skip, g_brk, g_cnt, g_retV, g_seq, g_if, g_setI, g_setR, g_setL, g_inc, g_putI, g_putZ, g_putL, g_putR, g_upI, g_AI, g_AL, g_AR, g_UA, g_exp, g_retI, g_retL, g_retZ, g_scope, g_unBrk, g_sup, h_fn, argE_n, argE_i, argE_r, argE_l, argE_a, sto_0, sto_s, sto_n0, sto_ns, isL_i, isL_r, isL_n, isL_a, isL_l, isL_0, rcv_r, rcv_a, List.getElem?_cons_zero, List.getElem?_cons_succ, List.getElem?_nil, List.set_cons_zero, List.set_cons_succ, List.take_succ_cons, List.take_zero, List.take_nil, List.length_cons, List.length_nil, List.nil_append, List.cons_append, Nat.reduceAdd, Nat.reduceSub, Nat.reduceLT, Nat.reduceEqDiff, Nat.reduceLeDiff, Nat.zero_add, Nat.lt_irrefl, Nat.succ_sub_one, and_true, true_and, and_false, false_and, not_false_eq_true, not_true_eq_false, Bool.false_eq_true, Bool.not_true, Bool.not_false, Bool.not_eq_true', Bool.true_eq_false, decide_true, decide_false, decide_eq_true_eq, decide_eq_false_iff_not, Option.some.injEq, and_self, Nat.add_one_sub_one, Nat.lt_add_one, Nat.zero_lt_succ, Value.int.injEq, Value.ref.injEq, Value.long.injEq, exists_eq_left', exists_eq_left, Sum.inl.injEq, Sum.inr.injEq, i2z_b2i, h_vS, h_kN, h2, h4, h_of (m_has x hy m)]
theorem sgB_r {k : Nat} : sgB tp n k (.inr q) = decide (tkK tp n q = k) := rfl
theorem m_nxL {M0 : qM} (h0 : MB M0 X C n tp) (s0 : MS M0 X tp n σ) (N0 : NmR M0 C nm) (K : RdOK p lo nm fl) (a : Int32) : hS nxL [.ref X, .int a, .int (n32 0), .int (n32 1)] M0 (fun r e m => r = .inl 0 ∧ ∃ x w, e = [.ref X, .int a, .int x, .int w] ∧ XF M0 m X ∧ MS m X tp n (pB (pB σ (pNextL tp n nm 9 (fun _ => false))) fun y => .inr y.1) ∧ ∀ y, pB σ (pNextL tp n nm 9 (fun _ => false)) = .inr y → (∀ j, bt x j = y.2 j) ∧ ∀ j, y.2 j = true → j < pK p) () := by
  have kk := K.O.kinds
  generalize hρ : pB σ (pNextL tp n nm 9 (fun _ => false)) = ρ
  unfold nxL
  let I : Nat → qE → qM → Prop := fun k e m => ∃ x b τ, e = [.ref X, .int a, .int x, .int (b2i b)] ∧ XF M0 m X ∧ MS m X tp n τ ∧ ((∃ q' S, τ = .inr q' ∧ b = true ∧ ρ = pNextL tp n nm k S q' ∧ cS S + k = 9 ∧ (∀ j, bt x j = S j) ∧ ∀ j, S j = true → j < pK p) ∨ (k = 0 ∧ ∃ e0, τ = .inl e0 ∧ ρ = .inl e0) ∨ (k = 0 ∧ b = false ∧ ∃ q' S, τ = .inr q' ∧ ρ = .inr (q', S) ∧ (∀ j, bt x j = S j) ∧ ∀ j, S j = true → j < pK p))
  have start : ∃ k, I k [.ref X, .int a, .int (n32 0), .int (n32 1)] M0 := by
    cases σ with
    | inl e => exact ⟨0, n32 0, true, .inl e, rfl, XF.refl _ _, s0, Or.inr (Or.inl ⟨rfl, e, rfl, hρ.symm⟩)⟩
    | inr q => exact ⟨9, n32 0, true, .inr q, rfl, XF.refl _ _, s0, Or.inl ⟨q, fun _ => false, rfl, rfl, hρ.symm, rfl, fun j => bt_zero j, fun j hj => by cases hj⟩⟩
  obtain ⟨k0, hk0⟩ := start
  refine h_dn I k0 hk0 ?_
  intro k e m ⟨x, b, τ, he, fm, sm, md⟩
  subst he
  have hm := fm.mb h0
  rcases md with ⟨q', S, rfl, rfl, hr, hc, hx, hSK⟩ | ⟨rfl, e0, rfl, hr⟩ | ⟨rfl, rfl, q', S, rfl, hr, hx, hSK⟩
  · have cl := cS_le S
    obtain ⟨k', rfl⟩ : ∃ k', k = k' + 1 := ⟨k - 1, by omega⟩
    have N := N0.xf h0 fm
    obtain ⟨y, M1, e1, f1, y8, s1, r1⟩ := m_known hm sm N (z := 1) (by decide)
    have h1 := f1.mb hm
    obtain ⟨M2, f2, s2, e2⟩ := m_cIf h1 s1 (c := hasC) (e := [.ref X, .int a, .int x, .int (b2i true), .int (n32 y)]) (b := bt x y) 3 3 rfl rfl (fun Q => hasC_e (by omega) rfl rfl Q)
    have h2 := f2.mb h1
    obtain ⟨M3, e3, f3, s3⟩ := m_gos h2 s2 (ok_f ok_kn)
    have h3 := f3.mb h2
    obtain ⟨M4, e4, f4, s4⟩ := m_eatsS h3 s3 (c := 44) (k := 4) (Or.inr ⟨rfl, rfl⟩)
    have h4 := f4.mb h3
    have f04 := (((fm.trans f1).trans f2).trans f3).trans f4
    obtain ⟨z, z1, z2, z3⟩ := sm.o
    have z5 : ¬ z = 5 := of_decide_eq_false z3
    have E2 : ∀ (Q : Re → qE → qM → Prop) (u : Hd (hasI, Q)), hS hasI [.ref X, .int a, .int x, .int (b2i true), .int (n32 y)] M1 Q u = Q (.inl 0) [.ref X, .int a, .int x, .int (b2i true), .int (n32 y)] M2 := e2
    simp (disch := omega) only [hR_d, hT_d, hI_t, hI_f, hVI_s, hVL_s, hVR_s, hVT_s, hVV_s, hO_s, hB_0, hB_1, hB_2, hB_r, hU_0, hU_1, hU_2, hU_r, hX_r, hL_0, hL_1, hL_2, hL_r, hC_s, h_k0, h_k1, h_k2, h_k3, h_k4, h_k5, h_k6, h_k7, h_k8, h_k9, h_k10, h_k11, h_k12, h_k14, h_k16, h_k18, h_k20, h_k23, h_k24, h_k25, h_k32, h_k44, h_k48, h_k50, h_k54, h_k57, h_k58, h_k59, h_k60, h_k63, h_k97, h_k100, h_k122, h_k177, h_k255, h_k400, h_k450, h_k625, h_k649, h_k708, h_k800, h_k900, h_k2500, h_k22500, h_k45000, h_kn1, h_kn2, h_kJ, h_kU, h_eI, h_eL, h_eR, h_eT, h_b1, h_eZ, h_not, h_b2, h_b0, h_b0L, h_gI, h_gL, h_gN, h_gR, h_aI, h_aL, h_aR, h_aLen, h_tern, h_and, h_or, h_vN, h_vI, h_vJ, h_vA, h_cFv, h_cFs, h_toI, h_toL, h_toV, h_nO, h_nA, g_skip, g_brk, g_cnt, g_retV, g_seq, g_if, g_setI, g_setR, g_setL, g_inc, g_putI, g_putZ, g_putL, g_putR, g_upI, g_AI, g_AL, g_AR, g_UA, g_exp, g_retI, g_retL, g_retZ, g_scope, g_unBrk, g_sup, h_fn, argE_n, argE_i, argE_r, argE_l, argE_a, sto_0, sto_s, sto_n0, sto_ns, isL_i, isL_r, isL_n, isL_a, isL_l, isL_0, rcv_r, rcv_a, List.getElem?_cons_zero, List.getElem?_cons_succ, List.getElem?_nil, List.set_cons_zero, List.set_cons_succ, List.take_succ_cons, List.take_zero, List.take_nil, List.length_cons, List.length_nil, List.nil_append, List.cons_append, Nat.reduceAdd, Nat.reduceSub, Nat.reduceLT, Nat.reduceEqDiff, Nat.reduceLeDiff, Nat.zero_add, Nat.lt_irrefl, Nat.succ_sub_one, and_true, true_and, and_false, false_and, not_false_eq_true, not_true_eq_false, Bool.false_eq_true, Bool.not_true, Bool.not_false, Bool.not_eq_true', Bool.true_eq_false, decide_true, decide_false, decide_eq_true_eq, decide_eq_false_iff_not, Option.some.injEq, and_self, Nat.add_one_sub_one, Nat.lt_add_one, Nat.zero_lt_succ, Value.int.injEq, Value.ref.injEq, Value.long.injEq, exists_eq_left', exists_eq_left, Sum.inl.injEq, Sum.inr.injEq, i2z_b2i, h_vS, h_kN, n32_add, n32_mul, n32_inc, n_iEq, n_iNe, n_iLt, n_iLe, n_iGt, n_iGe, n_zEq, n_zLt, n_zLe, n_zGt, n_zGe, n_inb, n32_clamp, hm.T.t, ne_eq, z1, z5, h_of e1, h1.T.t, E2, h2.T.t, h_of e3, h3.T.t, h_of e4]
    have fin : ∀ e0, ρ = .inl e0 → gos tp n (fwS tp n 3 (bt x y) (knS tp n nm 1 (.inr q'))) = .inl e0 → ∃ k1, k1 < k' + 1 ∧ I k1 [.ref X, .int a, .int (x ||| shlI (n32 1) (n32 y)), .int (b2i (sgB tp n 4 (gos tp n (fwS tp n 3 (bt x y) (knS tp n nm 1 (.inr q'))))))] M4 := fun e0 r g => by
      rw [g] at s4 ⊢
      exact ⟨0, by omega, _, _, .inl e0, rfl, f04, s4, Or.inr (Or.inl ⟨rfl, e0, rfl, r⟩)⟩
    cases y1 : pKn tp n nm 1 q' with
    | inl e0 => exact fin e0 (by rw [hr, pNextL_s]; simp only [y1, pB_l]) (by rw [knS_f y1, fwS_l, gos_l])
    | inr y' =>
    have ey := r1 q' y' rfl y1
    subst ey
    cases sy : S y with
    | true => exact fin (3, tkP tp n q') (by rw [hr, pNextL_s]; simp only [y1, pB_r, sy, if_true]) (by rw [knS_s y1, hx, sy, fwS_t]; rfl)
    | false =>
    rw [knS_s y1, hx, sy, fwS_f, gos_r, sgB_r] at s4 ⊢
    have hyK := pKn_row K y1
    have hx2 : ∀ j, bt (x ||| shlI (n32 1) (n32 y)) j = addS S y j := fun j => by
      rw [bt_or, show n32 1 = 1 from rfl, bt_shl (by omega), hx]
      unfold addS
      by_cases ej : j = y
      · rw [if_pos ej, decide_eq_true ej, Bool.or_true]
      · rw [if_neg ej, decide_eq_false ej, Bool.or_false]
    have hS2 : ∀ j, addS S y j = true → j < pK p := fun j hj => by
      unfold addS at hj
      by_cases ej : j = y
      · omega
      · rw [if_neg ej] at hj; exact hSK j hj
    have ca := cS_add sy (by omega)
    have cl2 := cS_le (addS S y)
    have hr2 := hr
    rw [pNextL_s] at hr2
    simp only [y1, pB_r, sy, Bool.false_eq_true, if_false] at hr2
    by_cases c4 : tkK tp n (tkE tp n q') = 4
    · rw [if_pos c4] at hr2
      rw [decide_eq_true c4, if_pos rfl, gos_r] at s4
      rw [decide_eq_true c4]
      exact ⟨k', by omega, _, true, _, rfl, f04, s4, Or.inl ⟨_, addS S y, rfl, rfl, hr2, by omega, hx2, hS2⟩⟩
    · rw [if_neg c4] at hr2
      rw [decide_eq_false c4, if_neg (by decide)] at s4
      rw [decide_eq_false c4]
      exact ⟨0, by omega, _, false, _, rfl, f04, s4, Or.inr (Or.inr ⟨rfl, rfl, _, _, rfl, hr2, hx2, hS2⟩)⟩
  · have s9 := sm.1
    have G : (.inl 0 : Re) = .inl 0 ∧ ∃ x' w, ([.ref X, .int a, .int x, .int (b2i b)] : qE) = [.ref X, .int a, .int x', .int w] ∧ XF M0 m X ∧ MS m X tp n (pB ρ fun y => .inr y.1) ∧ ∀ y, ρ = .inr y → (∀ j, bt x' j = y.2 j) ∧ ∀ j, y.2 j = true → j < pK p := ⟨rfl, x, _, rfl, fm, by rw [hr]; exact sm, fun y hy => by rw [hr] at hy; cases hy⟩
    cases b
    · simp (disch := omega) only [hR_d, hT_d, hI_t, hI_f, hVI_s, hVL_s, hVR_s, hVT_s, hVV_s, hO_s, hB_0, hB_1, hB_2, hB_r, hU_0, hU_1, hU_2, hU_r, hX_r, hL_0, hL_1, hL_2, hL_r, hC_s, h_k0, h_k1, h_k2, h_k3, h_k4, h_k5, h_k6, h_k7, h_k8, h_k9, h_k10, h_k11, h_k12, h_k14, h_k16, h_k18, h_k20, h_k23, h_k24, h_k25, h_k32, h_k44, h_k48, h_k50, h_k54, h_k57, h_k58, h_k59, h_k60, h_k63, h_k97, h_k100, h_k122, h_k177, h_k255, h_k400, h_k450, h_k625, h_k649, h_k708, h_k800, h_k900, h_k2500, h_k22500, h_k45000, h_kn1, h_kn2, h_kJ, h_kU, h_eI, h_eL, h_eR, h_eT, h_b1, h_eZ, h_not, h_b2, h_b0, h_b0L, h_gI, h_gL, h_gN, h_gR, h_aI, h_aL, h_aR, h_aLen, h_tern, h_and, h_or, h_vN, h_vI, h_vJ, h_vA, h_cFv, h_cFs, h_toI, h_toL, h_toV, h_nO, h_nA, g_skip, g_brk, g_cnt, g_retV, g_seq, g_if, g_setI, g_setR, g_setL, g_inc, g_putI, g_putZ, g_putL, g_putR, g_upI, g_AI, g_AL, g_AR, g_UA, g_exp, g_retI, g_retL, g_retZ, g_scope, g_unBrk, g_sup, h_fn, argE_n, argE_i, argE_r, argE_l, argE_a, sto_0, sto_s, sto_n0, sto_ns, isL_i, isL_r, isL_n, isL_a, isL_l, isL_0, rcv_r, rcv_a, List.getElem?_cons_zero, List.getElem?_cons_succ, List.getElem?_nil, List.set_cons_zero, List.set_cons_succ, List.take_succ_cons, List.take_zero, List.take_nil, List.length_cons, List.length_nil, List.nil_append, List.cons_append, Nat.reduceAdd, Nat.reduceSub, Nat.reduceLT, Nat.reduceEqDiff, Nat.reduceLeDiff, Nat.zero_add, Nat.lt_irrefl, Nat.succ_sub_one, and_true, true_and, and_false, false_and, not_false_eq_true, not_true_eq_false, Bool.false_eq_true, Bool.not_true, Bool.not_false, Bool.not_eq_true', Bool.true_eq_false, decide_true, decide_false, decide_eq_true_eq, decide_eq_false_iff_not, Option.some.injEq, and_self, Nat.add_one_sub_one, Nat.lt_add_one, Nat.zero_lt_succ, Value.int.injEq, Value.ref.injEq, Value.long.injEq, exists_eq_left', exists_eq_left, Sum.inl.injEq, Sum.inr.injEq, i2z_b2i, h_vS, h_kN, n32_add, n32_mul, n32_inc, n_iEq, n_iNe, n_iLt, n_iLe, n_iGt, n_iGe, n_zEq, n_zLt, n_zLe, n_zGt, n_zGe, n_inb, n32_clamp, hm.T.t, ne_eq, s9]
      exact G.2
    · simp (disch := omega) only [hR_d, hT_d, hI_t, hI_f, hVI_s, hVL_s, hVR_s, hVT_s, hVV_s, hO_s, hB_0, hB_1, hB_2, hB_r, hU_0, hU_1, hU_2, hU_r, hX_r, hL_0, hL_1, hL_2, hL_r, hC_s, h_k0, h_k1, h_k2, h_k3, h_k4, h_k5, h_k6, h_k7, h_k8, h_k9, h_k10, h_k11, h_k12, h_k14, h_k16, h_k18, h_k20, h_k23, h_k24, h_k25, h_k32, h_k44, h_k48, h_k50, h_k54, h_k57, h_k58, h_k59, h_k60, h_k63, h_k97, h_k100, h_k122, h_k177, h_k255, h_k400, h_k450, h_k625, h_k649, h_k708, h_k800, h_k900, h_k2500, h_k22500, h_k45000, h_kn1, h_kn2, h_kJ, h_kU, h_eI, h_eL, h_eR, h_eT, h_b1, h_eZ, h_not, h_b2, h_b0, h_b0L, h_gI, h_gL, h_gN, h_gR, h_aI, h_aL, h_aR, h_aLen, h_tern, h_and, h_or, h_vN, h_vI, h_vJ, h_vA, h_cFv, h_cFs, h_toI, h_toL, h_toV, h_nO, h_nA, g_skip, g_brk, g_cnt, g_retV, g_seq, g_if, g_setI, g_setR, g_setL, g_inc, g_putI, g_putZ, g_putL, g_putR, g_upI, g_AI, g_AL, g_AR, g_UA, g_exp, g_retI, g_retL, g_retZ, g_scope, g_unBrk, g_sup, h_fn, argE_n, argE_i, argE_r, argE_l, argE_a, sto_0, sto_s, sto_n0, sto_ns, isL_i, isL_r, isL_n, isL_a, isL_l, isL_0, rcv_r, rcv_a, List.getElem?_cons_zero, List.getElem?_cons_succ, List.getElem?_nil, List.set_cons_zero, List.set_cons_succ, List.take_succ_cons, List.take_zero, List.take_nil, List.length_cons, List.length_nil, List.nil_append, List.cons_append, Nat.reduceAdd, Nat.reduceSub, Nat.reduceLT, Nat.reduceEqDiff, Nat.reduceLeDiff, Nat.zero_add, Nat.lt_irrefl, Nat.succ_sub_one, and_true, true_and, and_false, false_and, not_false_eq_true, not_true_eq_false, Bool.false_eq_true, Bool.not_true, Bool.not_false, Bool.not_eq_true', Bool.true_eq_false, decide_true, decide_false, decide_eq_true_eq, decide_eq_false_iff_not, Option.some.injEq, and_self, Nat.add_one_sub_one, Nat.lt_add_one, Nat.zero_lt_succ, Value.int.injEq, Value.ref.injEq, Value.long.injEq, exists_eq_left', exists_eq_left, Sum.inl.injEq, Sum.inr.injEq, i2z_b2i, h_vS, h_kN, n32_add, n32_mul, n32_inc, n_iEq, n_iNe, n_iLt, n_iLe, n_iGt, n_iGe, n_zEq, n_zLt, n_zLe, n_zGt, n_zGe, n_inb, n32_clamp, hm.T.t, ne_eq, s9]
      exact G.2
  · simp (disch := omega) only [hR_d, hT_d, hI_t, hI_f, hVI_s, hVL_s, hVR_s, hVT_s, hVV_s, hO_s, hB_0, hB_1, hB_2, hB_r, hU_0, hU_1, hU_2, hU_r, hX_r, hL_0, hL_1, hL_2, hL_r, hC_s, h_k0, h_k1, h_k2, h_k3, h_k4, h_k5, h_k6, h_k7, h_k8, h_k9, h_k10, h_k11, h_k12, h_k14, h_k16, h_k18, h_k20, h_k23, h_k24, h_k25, h_k32, h_k44, h_k48, h_k50, h_k54, h_k57, h_k58, h_k59, h_k60, h_k63, h_k97, h_k100, h_k122, h_k177, h_k255, h_k400, h_k450, h_k625, h_k649, h_k708, h_k800, h_k900, h_k2500, h_k22500, h_k45000, h_kn1, h_kn2, h_kJ, h_kU, h_eI, h_eL, h_eR, h_eT, h_b1, h_eZ, h_not, h_b2, h_b0, h_b0L, h_gI, h_gL, h_gN, h_gR, h_aI, h_aL, h_aR, h_aLen, h_tern, h_and, h_or, h_vN, h_vI, h_vJ, h_vA, h_cFv, h_cFs, h_toI, h_toL, h_toV, h_nO, h_nA, g_skip, g_brk, g_cnt, g_retV, g_seq, g_if, g_setI, g_setR, g_setL, g_inc, g_putI, g_putZ, g_putL, g_putR, g_upI, g_AI, g_AL, g_AR, g_UA, g_exp, g_retI, g_retL, g_retZ, g_scope, g_unBrk, g_sup, h_fn, argE_n, argE_i, argE_r, argE_l, argE_a, sto_0, sto_s, sto_n0, sto_ns, isL_i, isL_r, isL_n, isL_a, isL_l, isL_0, rcv_r, rcv_a, List.getElem?_cons_zero, List.getElem?_cons_succ, List.getElem?_nil, List.set_cons_zero, List.set_cons_succ, List.take_succ_cons, List.take_zero, List.take_nil, List.length_cons, List.length_nil, List.nil_append, List.cons_append, Nat.reduceAdd, Nat.reduceSub, Nat.reduceLT, Nat.reduceEqDiff, Nat.reduceLeDiff, Nat.zero_add, Nat.lt_irrefl, Nat.succ_sub_one, and_true, true_and, and_false, false_and, not_false_eq_true, not_true_eq_false, Bool.false_eq_true, Bool.not_true, Bool.not_false, Bool.not_eq_true', Bool.true_eq_false, decide_true, decide_false, decide_eq_true_eq, decide_eq_false_iff_not, Option.some.injEq, and_self, Nat.add_one_sub_one, Nat.lt_add_one, Nat.zero_lt_succ, Value.int.injEq, Value.ref.injEq, Value.long.injEq, exists_eq_left', exists_eq_left, Sum.inl.injEq, Sum.inr.injEq, i2z_b2i, h_vS, h_kN, n32_add, n32_mul, n32_inc, n_iEq, n_iNe, n_iLt, n_iLe, n_iGt, n_iGe, n_zEq, n_zLt, n_zLe, n_zGt, n_zGe, n_inb, n32_clamp, hm.T.t, ne_eq]
    exact ⟨x, _, rfl, fm, by rw [hr]; exact sm, fun y hy => by rw [hr] at hy; cases hy; exact ⟨hx, hSK⟩⟩
theorem r_readNext (h : MB M X C n tp) (s : MS M X tp n (.inr q)) (Q : MQd M C p lo nm fl) (K : RdOK p lo nm fl) (k1 : tkK tp n q = 1) : ∃ M', f_X10_readNext [.ref X] M = some (none, M') ∧ MPo M M' X C n tp (pNext tp n (p, lo, nm, fl) q) := by
  have d := h.d
  have kk := K.O.kinds
  obtain ⟨M1, e1, f1, s1⟩ := m_gos h s (fun q' hq => by cases hq; omega)
  rw [gos_r] at s1
  have h1 := f1.mb h
  have Q1 := Q.xf h f1
  obtain ⟨a, M2, e2, f2, a8, s2, r2⟩ := m_known h1 s1 Q1.N (z := 1) (by decide)
  have h2 := f2.mb h1
  have f02 := f1.trans f2
  have Q2 := Q.xf h f02
  obtain ⟨M3, f3, s3, e3⟩ := m_fIf h2 s2 (g := 15) (i := 1) (k := a) (A := C + 7) (b := fl 2 a) h2.D.r15 h2.D.t7 a8 (Q2.inx a a8)
  have h3 := f3.mb h2
  obtain ⟨M4, e4, f4, s4⟩ := m_gos h3 s3 (ok_f ok_kn)
  have h4 := f4.mb h3
  obtain ⟨M5, e5, f5, s5⟩ := m_needs h4 s4 (i := 30) (j := 10) rfl (by decide)
  have h5 := f5.mb h4
  have f05 := ((f02.trans f3).trans f4).trans f5
  have Q5 := Q.xf h f05
  have L := m_nxL h5 s5 Q5.N K (n32 a)
  suffices key : hF f_X10_readNext [.ref X] M (fun v M' => v = none ∧ MPo M M' X C n tp (pNext tp n (p, lo, nm, fl) q)) () by
    obtain ⟨v, M', e, rfl, g⟩ := h_ex key
    exact ⟨M', e, g⟩
  delta f_X10_readNext
  rw [mnx_eq]
  simp (disch := omega) only [hR_d, hT_d, hI_t, hI_f, hVI_s, hVL_s, hVR_s, hVT_s, hVV_s, hO_s, hB_0, hB_1, hB_2, hB_r, hU_0, hU_1, hU_2, hU_r, hX_r, hL_0, hL_1, hL_2, hL_r, hC_s, h_k0, h_k1, h_k2, h_k3, h_k4, h_k5, h_k6, h_k7, h_k8, h_k9, h_k10, h_k11, h_k12, h_k14, h_k16, h_k18, h_k20, h_k23, h_k24, h_k25, h_k32, h_k44, h_k48, h_k50, h_k54, h_k57, h_k58, h_k59, h_k60, h_k63, h_k97, h_k100, h_k122, h_k177, h_k255, h_k400, h_k450, h_k625, h_k649, h_k708, h_k800, h_k900, h_k2500, h_k22500, h_k45000, h_kn1, h_kn2, h_kJ, h_kU, h_eI, h_eL, h_eR, h_eT, h_b1, h_eZ, h_not, h_b2, h_b0, h_b0L, h_gI, h_gL, h_gN, h_gR, h_aI, h_aL, h_aR, h_aLen, h_tern, h_and, h_or, h_vN, h_vI, h_vJ, h_vA, h_cFv, h_cFs, h_toI, h_toL, h_toV, h_nO, h_nA, g_skip, g_brk, g_cnt, g_retV, g_seq, g_if, g_setI, g_setR, g_setL, g_inc, g_putI, g_putZ, g_putL, g_putR, g_upI, g_AI, g_AL, g_AR, g_UA, g_exp, g_retI, g_retL, g_retZ, g_scope, g_unBrk, g_sup, h_fn, argE_n, argE_i, argE_r, argE_l, argE_a, sto_0, sto_s, sto_n0, sto_ns, isL_i, isL_r, isL_n, isL_a, isL_l, isL_0, rcv_r, rcv_a, List.getElem?_cons_zero, List.getElem?_cons_succ, List.getElem?_nil, List.set_cons_zero, List.set_cons_succ, List.take_succ_cons, List.take_zero, List.take_nil, List.length_cons, List.length_nil, List.nil_append, List.cons_append, Nat.reduceAdd, Nat.reduceSub, Nat.reduceLT, Nat.reduceEqDiff, Nat.reduceLeDiff, Nat.zero_add, Nat.lt_irrefl, Nat.succ_sub_one, and_true, true_and, and_false, false_and, not_false_eq_true, not_true_eq_false, Bool.false_eq_true, Bool.not_true, Bool.not_false, Bool.not_eq_true', Bool.true_eq_false, decide_true, decide_false, decide_eq_true_eq, decide_eq_false_iff_not, Option.some.injEq, and_self, Nat.add_one_sub_one, Nat.lt_add_one, Nat.zero_lt_succ, Value.int.injEq, Value.ref.injEq, Value.long.injEq, exists_eq_left', exists_eq_left, Sum.inl.injEq, Sum.inr.injEq, i2z_b2i, h_vS, h_kN, n32_add, n32_mul, n32_inc, n_iEq, n_iNe, n_iLt, n_iLe, n_iGt, n_iGe, n_zEq, n_zLt, n_zLe, n_zGt, n_zGe, n_inb, n32_clamp, tg_pI, tg_pL, tg_pR, vr_pI, vr_pL, vl_pI, vl_pR, vi_pL, vi_pR, mN_pI, mN_pL, mN_pR, mU_pI, mU_pL, mU_pR, h.T.t, h_of e1, h1.T.t, h_of e2, h2.T.t, e3 [.ref X, .int (n32 a)] rfl rfl, h3.T.t, h_of e4, h4.T.t, h_of e5]
  refine hS.mono L ?_
  rintro r e M6 ⟨rfl, x, w, rfl, f6, s6, r6⟩
  have h6 := f6.mb h5
  have f06 := f05.trans f6
  have Q6 := Q.xf h f06
  obtain ⟨z, z1, z2, z3⟩ := s6.o
  have R : (∃ e0, pNext tp n (p, lo, nm, fl) q = .inl e0 ∧ pB (pB (gos tp n (fwS tp n 3 (fl 2 a) (knS tp n nm 1 (.inr (tkE tp n q))))) (pW tp n 10)) (pNextL tp n nm 9 (fun _ => false)) = .inl e0) ∨ (∃ y, pNext tp n (p, lo, nm, fl) q = .inr (y.1, plN p a y.2, lo, nm, setF fl 2 a) ∧ pB (pB (gos tp n (fwS tp n 3 (fl 2 a) (knS tp n nm 1 (.inr (tkE tp n q))))) (pW tp n 10)) (pNextL tp n nm 9 (fun _ => false)) = .inr y ∧ pKn tp n nm 1 (tkE tp n q) = .inr a) := by
    unfold pNext
    cases y1 : pKn tp n nm 1 (tkE tp n q) with
    | inl e => exact Or.inl ⟨e, by simp only [y1, pB_l], by rw [knS_f y1, fwS_l, gos_l, pB_l, pB_l]⟩
    | inr a' =>
    have ea := r2 _ a' rfl y1
    subst ea
    rw [knS_s y1]
    cases fa : fl 2 a with
    | true => exact Or.inl ⟨(3, tkP tp n (tkE tp n q)), by simp only [y1, pB_r, fa, if_true], by rw [fwS_t]; rfl⟩
    | false =>
    rw [fwS_f, gos_r]
    cases y2 : pW tp n 10 (tkE tp n (tkE tp n q)) with
    | inl e => exact Or.inl ⟨e, by simp only [y1, y2, pB_r, pB_l, fa, Bool.false_eq_true, if_false], by rw [pB_r, y2, pB_l]⟩
    | inr q5 =>
    cases y3 : pNextL tp n nm 9 (fun _ => false) q5 with
    | inl e => exact Or.inl ⟨e, by simp only [y1, y2, y3, pB_r, pB_l, fa, Bool.false_eq_true, if_false], by rw [pB_r, y2, pB_r, y3]⟩
    | inr y => exact Or.inr ⟨y, by simp only [y1, y2, y3, pB_r, fa, Bool.false_eq_true, if_false], by rw [pB_r, y2, pB_r, y3], rfl⟩
  rcases R with ⟨e0, t, g⟩ | ⟨y, t, g, ka⟩
  · rw [g, pB_l] at s6 z3
    have z5 : z = 5 := of_decide_eq_true z3
    simp (disch := omega) only [hR_d, hT_d, hI_t, hI_f, hVI_s, hVL_s, hVR_s, hVT_s, hVV_s, hO_s, hB_0, hB_1, hB_2, hB_r, hU_0, hU_1, hU_2, hU_r, hX_r, hL_0, hL_1, hL_2, hL_r, hC_s, h_k0, h_k1, h_k2, h_k3, h_k4, h_k5, h_k6, h_k7, h_k8, h_k9, h_k10, h_k11, h_k12, h_k14, h_k16, h_k18, h_k20, h_k23, h_k24, h_k25, h_k32, h_k44, h_k48, h_k50, h_k54, h_k57, h_k58, h_k59, h_k60, h_k63, h_k97, h_k100, h_k122, h_k177, h_k255, h_k400, h_k450, h_k625, h_k649, h_k708, h_k800, h_k900, h_k2500, h_k22500, h_k45000, h_kn1, h_kn2, h_kJ, h_kU, h_eI, h_eL, h_eR, h_eT, h_b1, h_eZ, h_not, h_b2, h_b0, h_b0L, h_gI, h_gL, h_gN, h_gR, h_aI, h_aL, h_aR, h_aLen, h_tern, h_and, h_or, h_vN, h_vI, h_vJ, h_vA, h_cFv, h_cFs, h_toI, h_toL, h_toV, h_nO, h_nA, g_skip, g_brk, g_cnt, g_retV, g_seq, g_if, g_setI, g_setR, g_setL, g_inc, g_putI, g_putZ, g_putL, g_putR, g_upI, g_AI, g_AL, g_AR, g_UA, g_exp, g_retI, g_retL, g_retZ, g_scope, g_unBrk, g_sup, h_fn, argE_n, argE_i, argE_r, argE_l, argE_a, sto_0, sto_s, sto_n0, sto_ns, isL_i, isL_r, isL_n, isL_a, isL_l, isL_0, rcv_r, rcv_a, List.getElem?_cons_zero, List.getElem?_cons_succ, List.getElem?_nil, List.set_cons_zero, List.set_cons_succ, List.take_succ_cons, List.take_zero, List.take_nil, List.length_cons, List.length_nil, List.nil_append, List.cons_append, Nat.reduceAdd, Nat.reduceSub, Nat.reduceLT, Nat.reduceEqDiff, Nat.reduceLeDiff, Nat.zero_add, Nat.lt_irrefl, Nat.succ_sub_one, and_true, true_and, and_false, false_and, not_false_eq_true, not_true_eq_false, Bool.false_eq_true, Bool.not_true, Bool.not_false, Bool.not_eq_true', Bool.true_eq_false, decide_true, decide_false, decide_eq_true_eq, decide_eq_false_iff_not, Option.some.injEq, and_self, Nat.add_one_sub_one, Nat.lt_add_one, Nat.zero_lt_succ, Value.int.injEq, Value.ref.injEq, Value.long.injEq, exists_eq_left', exists_eq_left, Sum.inl.injEq, Sum.inr.injEq, i2z_b2i, h_vS, h_kN, n32_add, n32_mul, n32_inc, n_iEq, n_iNe, n_iLt, n_iLe, n_iGt, n_iGe, n_zEq, n_zLt, n_zLe, n_zGt, n_zGe, n_inb, n32_clamp, tg_pI, tg_pL, tg_pR, vr_pI, vr_pL, vl_pI, vl_pR, vi_pL, vi_pR, mN_pI, mN_pL, mN_pR, mU_pI, mU_pL, mU_pR, h6.T.t, z1, z5]
    exact MPo.f t (f06.lf C) s6
  · rw [g, pB_r] at s6 z3
    have z5 : ¬ z = 5 := of_decide_eq_false z3
    obtain ⟨hx, hSK⟩ := r6 y g
    have ha := pKn_row K ka
    obtain ⟨M8, hM8⟩ : ∃ M8, M8 = pI (pI M6 (C + 7) a (n32 1)) (C + 11) a x := ⟨_, rfl⟩
    have k8 : ∀ u j, ¬ ((u = C + 11 ∧ j = a) ∨ (u = C + 7 ∧ j = a)) → vi M8 u j = vi M6 u j := fun u j hn => by rw [hM8, vi_pI, if_neg (by omega), vi_pI, if_neg (by omega)]
    have l8 : vl M8 = vl M6 := by rw [hM8]; rfl
    have f8 : LF M6 M8 X C := by
      refine ⟨?_, fun j hj => k8 _ _ (by omega)⟩
      rw [hM8]
      exact ((Fr.refl (mS X C) M6).pI _ _ (Or.inr ⟨by omega, by omega⟩)).pI _ _ (Or.inr ⟨by omega, by omega⟩)
    have s8 : MS M8 X tp n (.inr y.1) := s6.mv (fun j => k8 _ _ (by omega)) (by rw [l8])
    have G : MPo M M8 X C n tp (pNext tp n (p, lo, nm, fl) q) := by
      refine MPo.s (rd := (plN p a y.2, lo, nm, setF fl 2 a)) t ((f06.lf C).trans f8) s8 ⟨?_, ?_, ?_, fun u v hu hv => ?_, fun u i hu hi => ?_, fun u hu => ?_, fun u hu => ?_, fun r hr => ?_, fun r hr => ?_, fun r hr hk => ?_⟩
      · have V7' : ClothV (pI M6 (C + 7) a (n32 1)) C p := Q6.V.kp (fun u j hn => by rw [vi_pI, if_neg (by omega)])
        rw [hM8]
        exact V7'.u_nx K.O ha hSK (fun u j hn => by rw [vi_pI, if_neg (by omega)]) (fun i => by rw [vi_self]; exact hx i)
      · exact ⟨by rw [k8 _ _ (by omega)]; exact Q6.N.nn, Q6.N.n14, fun i hi => by rw [l8, k8 _ _ (by omega), k8 _ _ (by omega)]; exact Q6.N.nw i hi, Q6.N.ok⟩
      · show _ = b2i (setF fl 2 a 0 0)
        rw [k8 _ _ (by omega), setF_g (by decide)]; exact Q6.told
      · rw [k8 _ _ (by omega)]; exact Q6.st u v hu hv
      · rw [k8 _ _ (by omega)]; exact Q6.wv u i hu hi
      · rw [k8 _ _ (by omega)]; exact Q6.wm u hu
      · show _ = b2i (setF fl 2 a 1 u)
        rw [k8 _ _ (by omega), setF_g (by decide)]; exact Q6.iw u hu
      · show _ = b2i (setF fl 2 a 2 r)
        have := Q6.inx r hr
        rw [hM8, vi_ne (by omega), vi_pI, this]
        unfold setF
        by_cases ea : r = a
        · rw [if_pos ⟨rfl, ea⟩, if_pos ⟨rfl, ea⟩]; rfl
        · rw [if_neg (show ¬ (C + 7 = C + 7 ∧ r = a) from fun z => ea z.2), if_neg (show ¬ (2 = 2 ∧ r = a) from fun z => ea z.2)]
      · show _ = b2i (setF fl 2 a 3 r)
        rw [k8 _ _ (by omega), setF_g (by decide)]; exact Q6.ian r hr
      · have hk : pK (plN p a y.2) ≤ r := hk
        rw [plN_K.1] at hk
        rw [k8 _ _ (by omega)]; exact Q6.z11 r hr hk
    unfold nxT
    simp (disch := omega) only [hR_d, hT_d, hI_t, hI_f, hVI_s, hVL_s, hVR_s, hVT_s, hVV_s, hO_s, hB_0, hB_1, hB_2, hB_r, hU_0, hU_1, hU_2, hU_r, hX_r, hL_0, hL_1, hL_2, hL_r, hC_s, h_k0, h_k1, h_k2, h_k3, h_k4, h_k5, h_k6, h_k7, h_k8, h_k9, h_k10, h_k11, h_k12, h_k14, h_k16, h_k18, h_k20, h_k23, h_k24, h_k25, h_k32, h_k44, h_k48, h_k50, h_k54, h_k57, h_k58, h_k59, h_k60, h_k63, h_k97, h_k100, h_k122, h_k177, h_k255, h_k400, h_k450, h_k625, h_k649, h_k708, h_k800, h_k900, h_k2500, h_k22500, h_k45000, h_kn1, h_kn2, h_kJ, h_kU, h_eI, h_eL, h_eR, h_eT, h_b1, h_eZ, h_not, h_b2, h_b0, h_b0L, h_gI, h_gL, h_gN, h_gR, h_aI, h_aL, h_aR, h_aLen, h_tern, h_and, h_or, h_vN, h_vI, h_vJ, h_vA, h_cFv, h_cFs, h_toI, h_toL, h_toV, h_nO, h_nA, g_skip, g_brk, g_cnt, g_retV, g_seq, g_if, g_setI, g_setR, g_setL, g_inc, g_putI, g_putZ, g_putL, g_putR, g_upI, g_AI, g_AL, g_AR, g_UA, g_exp, g_retI, g_retL, g_retZ, g_scope, g_unBrk, g_sup, h_fn, argE_n, argE_i, argE_r, argE_l, argE_a, sto_0, sto_s, sto_n0, sto_ns, isL_i, isL_r, isL_n, isL_a, isL_l, isL_0, rcv_r, rcv_a, List.getElem?_cons_zero, List.getElem?_cons_succ, List.getElem?_nil, List.set_cons_zero, List.set_cons_succ, List.take_succ_cons, List.take_zero, List.take_nil, List.length_cons, List.length_nil, List.nil_append, List.cons_append, Nat.reduceAdd, Nat.reduceSub, Nat.reduceLT, Nat.reduceEqDiff, Nat.reduceLeDiff, Nat.zero_add, Nat.lt_irrefl, Nat.succ_sub_one, and_true, true_and, and_false, false_and, not_false_eq_true, not_true_eq_false, Bool.false_eq_true, Bool.not_true, Bool.not_false, Bool.not_eq_true', Bool.true_eq_false, decide_true, decide_false, decide_eq_true_eq, decide_eq_false_iff_not, Option.some.injEq, and_self, Nat.add_one_sub_one, Nat.lt_add_one, Nat.zero_lt_succ, Value.int.injEq, Value.ref.injEq, Value.long.injEq, exists_eq_left', exists_eq_left, Sum.inl.injEq, Sum.inr.injEq, i2z_b2i, h_vS, h_kN, n32_add, n32_mul, n32_inc, n_iEq, n_iNe, n_iLt, n_iLe, n_iGt, n_iGe, n_zEq, n_zLt, n_zLe, n_zGt, n_zGe, n_inb, n32_clamp, tg_pI, tg_pL, tg_pR, vr_pI, vr_pL, vl_pI, vl_pR, vi_pL, vi_pR, mN_pI, mN_pL, mN_pR, mU_pI, mU_pL, mU_pR, h6.T.t, z1, z5, h6.r4, h6.D.t, h6.D.r15, h6.D.t7, h6.D.r19, h6.D.t11, a8, nar, n1_and, Nat.reduceEqDiff, if_false, if_true, ← hM8]
    exact G
end
