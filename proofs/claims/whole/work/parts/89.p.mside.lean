/-! THE REFERENCE'S READER: woven -/
noncomputable def wv1 : Ev Bool := (b1 i2z (aI 23 (gR 10 13 (gR 11 4 (eR 0))) (eI 1)))
noncomputable def wvI1 : Sv := (sIf wv1 (sExp (toV (cFv 11 f_X10_flaw (vI (vA vN (eR 0)) (eK (3 : Int32)))))) sSkip)
noncomputable def wv2 : Ev Bool := (b2 iEq (eI 3) (eK (12 : Int32)))
noncomputable def wvI2 : Sv := (sIf wv2 (sExp (toV (cFv 11 f_X10_flaw (vI (vA vN (eR 0)) (eK (5 : Int32)))))) sSkip)
noncomputable def wv3 : Ev Bool := (cAnd (b2 iNe (gI 11 9 (eR 0)) (eK (5 : Int32))) (cOr (cNot (b1 i2z (toI (cFv 10 f_X9_mayFollow (vI (vI (vI (vA vN (gR 11 4 (eR 0))) (eI 1)) (eI 2)) (eI 5)))))) (b2 iGt (aI 20 (gR 10 18 (gR 11 4 (eR 0))) (eI 5)) (aI 20 (gR 10 10 (gR 11 4 (eR 0))) (eI 6)))))
noncomputable def wvI3 : Sv := (sIf wv3 (sExp (toV (cFv 11 f_X10_flaw (vI (vA vN (eR 0)) (eK (7 : Int32)))))) sSkip)
noncomputable def wvW : Sv := (sSeq (sUA (gR 10 10 (gR 11 4 (eR 0))) (eI 6) (fun x y => x - y) (aI 20 (gR 10 18 (gR 11 4 (eR 0))) (eI 5))) (sSeq (sAI 20 (gR 10 11 (gR 11 4 (eR 0))) (b2 (fun x y => x + y) (b2 (fun x y => x * y) (eK (12 : Int32)) (eI 1)) (eI 3)) (eI 5)) (sSeq (sInc 3 (1)) (sSeq (sSetI 2 (eI 5)) (sSetI 4 (toI (cFv 11 f_X10_eatsSign (vI (vA vN (eR 0)) (eK (44 : Int32))))))))))
noncomputable def wvL : Sv := (sLoop (cAnd (b1 i2z (eI 4)) (b2 iNe (gI 11 9 (eR 0)) (eK (5 : Int32)))) (sScope 5 (sSeq (sSetI 5 (toI (cFv 11 f_X10_known (vI (vA vN (eR 0)) (eK (1 : Int32)))))) (sSeq wvI2 (sSeq (sSetI 6 (b2 (fun x y => x + y) (b2 (fun x y => x * y) (eK (2 : Int32)) (eI 1)) (aI 20 (gR 10 17 (gR 11 4 (eR 0))) (eI 5)))) (sSeq wvI3 (sSeq (sExp (toV (cFv 11 f_X10_goesOn (vA vN (eR 0))))) (sSeq (sIf (b2 iEq (gI 11 9 (eR 0)) (eK (5 : Int32))) sRetV sSkip) wvW))))))) sSkip)
noncomputable def wvT : Sv := (sSeq (sAI 23 (gR 10 13 (gR 11 4 (eR 0))) (eI 1) (eK (1 : Int32))) (sAI 20 (gR 10 12 (gR 11 4 (eR 0))) (eI 1) (eI 3)))
theorem mwv_eq : b_X10_readWoven = (sSeq (sScope 2 (sSeq wvI1 (sSeq (sExp (toV (cFv 11 f_X10_goesOn (vA vN (eR 0))))) (sSeq (sSetI 2 (eK (8 : Int32))) (sSeq (sSetI 3 (eK (0 : Int32))) (sSeq (sSetI 4 (eK (1 : Int32))) (sSeq wvL (sSeq (sIf (b2 iEq (gI 11 9 (eR 0)) (eK (5 : Int32))) sRetV sSkip) wvT)))))))) sRetV) := rfl
section
variable {M : qM} {X C n q : Nat} {tp : Nat → Int32} {σ : Pr Nat} {p : Pl} {lo : Lo} {nm : Nm} {fl : Fl}
theorem ClothV.mv {m : qM} (h : ClothV M C p) (e : ∀ a j, C ≤ a ∧ a ≤ C + 21 → vi m a j = vi M a j) : ClothV m C p := ⟨by rw [e _ _ (by omega)]; exact h.len , by rw [e _ _ (by omega)]; exact h.sl , by rw [e _ _ (by omega)]; exact h.cols , by rw [e _ _ (by omega)]; exact h.kinds , by rw [e _ _ (by omega)]; exact h.ms , by rw [e _ _ (by omega)]; exact h.nn , by rw [e _ _ (by omega)]; exact h.rate , by rw [e _ _ (by omega)]; exact h.h0 , by rw [e _ _ (by omega)]; exact h.h1 , fun r hr => by rw [e _ _ (by omega)]; exact h.sm r hr, fun r hr => by rw [e _ _ (by omega)]; exact h.col r hr, fun r hr => by rw [e _ _ (by omega)]; exact h.tk r hr, fun r hr i => by rw [e _ _ (by omega)]; exact h.nx r hr i, fun r hr => by rw [e _ _ (by omega)]; exact h.par r hr, fun m hm => by rw [e _ _ (by omega)]; exact h.mk m hm, fun m hm => by rw [e _ _ (by omega)]; exact h.ml m hm, fun m i hm hi => by rw [e _ _ (by omega)]; exact h.mr m i hm hi, fun i hi => by rw [e _ _ (by omega)]; exact h.ns i hi, fun i hi => by rw [e _ _ (by omega)]; exact h.nf i hi, fun i hi => by rw [e _ _ (by omega)]; exact h.nt i hi⟩
theorem MQd.mv {m : qM} (Q : MQd M C p lo nm fl) (e : ∀ a j, C ≤ a ∧ a ≤ C + 21 → vi m a j = vi M a j) (el : ∀ j, vl m (C + 19) j = vl M (C + 19) j) : MQd m C p lo nm fl :=
  ⟨Q.V.mv e, ⟨by rw [e _ _ (by omega)]; exact Q.N.nn, Q.N.n14, fun i hi => by rw [el, e _ _ (by omega), e _ _ (by omega)]; exact Q.N.nw i hi, Q.N.ok⟩, by rw [e _ _ (by omega)]; exact Q.told, fun s c hs hc => by rw [e _ _ (by omega)]; exact Q.st s c hs hc, fun s i hs hi => by rw [e _ _ (by omega)]; exact Q.wv s i hs hi, fun s hs => by rw [e _ _ (by omega)]; exact Q.wm s hs, fun s hs => by rw [e _ _ (by omega)]; exact Q.iw s hs, fun r hr => by rw [e _ _ (by omega)]; exact Q.inx r hr, fun r hr => by rw [e _ _ (by omega)]; exact Q.ian r hr, fun r hr hk => by rw [e _ _ (by omega)]; exact Q.z11 r hr hk⟩
theorem MQd.px {m : qM} {a k : Nat} {v : Int32} (Q : MQd (pI M a k v) C p lo nm fl) (h : MB M X C n tp) (f : XF M m X) : MQd (pI m a k v) C p lo nm fl := by
  have d := h.d
  exact Q.mv (fun b j hb => by rw [vi_pI, vi_pI, f.1.vi (by omega) j]) (fun j => f.1.vl (by omega) j)
theorem MQd.un {a k : Nat} {v : Int32} (Q : MQd (pI M (C + 4) k v) C p lo nm fl) : ClothV M C p := Q.V.kp (fun b j hb => by rw [vi_pI, if_neg (by omega)])
theorem hind_12 {s r : Nat} (h : lC lo s ≤ 12) : decide (hind p lo s r ≠ 0) = (!folO p s (lastO lo s 0) r || decide (lS lo s (pCol p r) < pTk p r)) := by
  unfold hind
  rw [if_neg (by omega)]
  cases folO p s (lastO lo s 0) r
  · rfl
  · rw [if_neg (by decide)]
    by_cases e : lS lo s (pCol p r) < pTk p r
    · rw [if_pos e, decide_eq_true e]; rfl
    · rw [if_neg e, decide_eq_false e]; rfl
/-- may this row be woven here? -/
theorem m_wv3 (h : MB M X C n tp) (s : MS M X tp n σ) {S y i : Nat} {b : Bool} (Q : MQd (pI M (C + 4) S (n32 (lC lo S))) C p lo nm fl) (O : PlOK p) (L : LoOK (pK p) lo) (hS2 : S < 2) (hy : y < 8) (hi : lC lo S ≤ 12) (hr : ∀ q', σ = .inr q' → y < pK p) : ∃ b7, (∀ Q, hE wv3 [.ref X, .int (n32 S), .int (oM (lastO lo S 0)), .int (n32 i), .int (b2i b), .int (n32 y), .int (n32 (2 * S) + vi M (C + 9) y)] M Q () = Q b7 M) ∧ ∀ q', σ = .inr q' → b7 = decide (hind p lo S y ≠ 0) := by
  have d := h.d
  cases σ with
  | inl e =>
    refine ⟨false, fun Q => ?_, fun q' hq => by cases hq⟩
    unfold wv3
    simp (disch := omega) only [hR_d, hT_d, hI_t, hI_f, hVI_s, hVL_s, hVR_s, hVT_s, hVV_s, hO_s, hB_0, hB_1, hB_2, hB_r, hU_0, hU_1, hU_2, hU_r, hX_r, hL_0, hL_1, hL_2, hL_r, hC_s, h_k0, h_k1, h_k2, h_k3, h_k4, h_k5, h_k6, h_k7, h_k8, h_k9, h_k10, h_k11, h_k12, h_k14, h_k16, h_k18, h_k20, h_k23, h_k24, h_k25, h_k32, h_k44, h_k48, h_k50, h_k54, h_k57, h_k58, h_k59, h_k60, h_k63, h_k97, h_k100, h_k122, h_k177, h_k255, h_k400, h_k450, h_k625, h_k649, h_k708, h_k800, h_k900, h_k2500, h_k22500, h_k45000, h_kn1, h_kn2, h_kJ, h_kU, h_eI, h_eL, h_eR, h_eT, h_b1, h_eZ, h_not, h_b2, h_b0, h_b0L, h_gI, h_gL, h_gN, h_gR, h_aI, h_aL, h_aR, h_aLen, h_tern, h_and, h_or, h_vN, h_vI, h_vJ, h_vA, h_cFv, h_cFs, h_toI, h_toL, h_toV, h_nO, h_nA, g_skip, g_brk, g_cnt, g_retV, g_seq, g_if, g_setI, g_setR, g_setL, g_inc, g_putI, g_putZ, g_putL, g_putR, g_upI, g_AI, g_AL, g_AR, g_UA, g_exp, g_retI, g_retL, g_retZ, g_scope, g_unBrk, g_sup, h_fn, argE_n, argE_i, argE_r, argE_l, argE_a, sto_0, sto_s, sto_n0, sto_ns, isL_i, isL_r, isL_n, isL_a, isL_l, isL_0, rcv_r, rcv_a, List.getElem?_cons_zero, List.getElem?_cons_succ, List.getElem?_nil, List.set_cons_zero, List.set_cons_succ, List.take_succ_cons, List.take_zero, List.take_nil, List.length_cons, List.length_nil, List.nil_append, List.cons_append, Nat.reduceAdd, Nat.reduceSub, Nat.reduceLT, Nat.reduceEqDiff, Nat.reduceLeDiff, Nat.zero_add, Nat.lt_irrefl, Nat.succ_sub_one, and_true, true_and, and_false, false_and, not_false_eq_true, not_true_eq_false, Bool.false_eq_true, Bool.not_true, Bool.not_false, Bool.not_eq_true', Bool.true_eq_false, decide_true, decide_false, decide_eq_true_eq, decide_eq_false_iff_not, Option.some.injEq, and_self, Nat.add_one_sub_one, Nat.lt_add_one, Nat.zero_lt_succ, Value.int.injEq, Value.ref.injEq, Value.long.injEq, exists_eq_left', exists_eq_left, Sum.inl.injEq, Sum.inr.injEq, i2z_b2i, h_vS, h_kN, n32_add, n32_mul, n32_inc, n_iEq, n_iNe, n_iLt, n_iLe, n_iGt, n_iGe, n_zEq, n_zLt, n_zLe, n_zGt, n_zGe, n_inb, n32_clamp, h.T.t, ne_eq, s.1]
  | inr q' =>
    have yK := hr q' rfl
    have s9 := s.2.1.2.1
    have sl := srt_lt (tkK tp n q')
    have V := Q.un (a := 0)
    have hcl := O.col y yK
    have hcs := O.cols
    have htk := O.tk y yK
    have hst := L.st S (pCol p y) hS2 (by omega)
    have st : vi M (C + 2) (2 * S + pCol p y) = n32 (lS lo S (pCol p y)) := by
      have := Q.st S (pCol p y) hS2 (by omega)
      rw [vi_ne (by omega)] at this; exact this
    have mf := m_mayFollow h.D V O hS2 yK (o := lastO lo S 0) (fun r hr => lastO_lt L hS2 hr)
    refine ⟨decide (hind p lo S y ≠ 0), fun Q => ?_, fun _ _ => rfl⟩
    rw [hind_12 hi, V.col y yK]
    unfold wv3
    simp (disch := omega) only [hR_d, hT_d, hI_t, hI_f, hVI_s, hVL_s, hVR_s, hVT_s, hVV_s, hO_s, hB_0, hB_1, hB_2, hB_r, hU_0, hU_1, hU_2, hU_r, hX_r, hL_0, hL_1, hL_2, hL_r, hC_s, h_k0, h_k1, h_k2, h_k3, h_k4, h_k5, h_k6, h_k7, h_k8, h_k9, h_k10, h_k11, h_k12, h_k14, h_k16, h_k18, h_k20, h_k23, h_k24, h_k25, h_k32, h_k44, h_k48, h_k50, h_k54, h_k57, h_k58, h_k59, h_k60, h_k63, h_k97, h_k100, h_k122, h_k177, h_k255, h_k400, h_k450, h_k625, h_k649, h_k708, h_k800, h_k900, h_k2500, h_k22500, h_k45000, h_kn1, h_kn2, h_kJ, h_kU, h_eI, h_eL, h_eR, h_eT, h_b1, h_eZ, h_not, h_b2, h_b0, h_b0L, h_gI, h_gL, h_gN, h_gR, h_aI, h_aL, h_aR, h_aLen, h_tern, h_and, h_or, h_vN, h_vI, h_vJ, h_vA, h_cFv, h_cFs, h_toI, h_toL, h_toV, h_nO, h_nA, g_skip, g_brk, g_cnt, g_retV, g_seq, g_if, g_setI, g_setR, g_setL, g_inc, g_putI, g_putZ, g_putL, g_putR, g_upI, g_AI, g_AL, g_AR, g_UA, g_exp, g_retI, g_retL, g_retZ, g_scope, g_unBrk, g_sup, h_fn, argE_n, argE_i, argE_r, argE_l, argE_a, sto_0, sto_s, sto_n0, sto_ns, isL_i, isL_r, isL_n, isL_a, isL_l, isL_0, rcv_r, rcv_a, List.getElem?_cons_zero, List.getElem?_cons_succ, List.getElem?_nil, List.set_cons_zero, List.set_cons_succ, List.take_succ_cons, List.take_zero, List.take_nil, List.length_cons, List.length_nil, List.nil_append, List.cons_append, Nat.reduceAdd, Nat.reduceSub, Nat.reduceLT, Nat.reduceEqDiff, Nat.reduceLeDiff, Nat.zero_add, Nat.lt_irrefl, Nat.succ_sub_one, and_true, true_and, and_false, false_and, not_false_eq_true, not_true_eq_false, Bool.false_eq_true, Bool.not_true, Bool.not_false, Bool.not_eq_true', Bool.true_eq_false, decide_true, decide_false, decide_eq_true_eq, decide_eq_false_iff_not, Option.some.injEq, and_self, Nat.add_one_sub_one, Nat.lt_add_one, Nat.zero_lt_succ, Value.int.injEq, Value.ref.injEq, Value.long.injEq, exists_eq_left', exists_eq_left, Sum.inl.injEq, Sum.inr.injEq, i2z_b2i, h_vS, h_kN, n32_add, n32_mul, n32_inc, n_iEq, n_iNe, n_iLt, n_iLe, n_iGt, n_iGe, n_zEq, n_zLt, n_zLe, n_zGt, n_zGe, n_inb, n32_clamp, h.T.t, ne_eq, s9, show ¬ srt (tkK tp n q') = 5 by omega, h.r4, h.D.t, h_of mf]
    cases folO p S (lastO lo S 0) y
    · simp only [hR_d, hT_d, hI_t, hI_f, hVI_s, hVL_s, hVR_s, hVT_s, hVV_s, hO_s, hB_0, hB_1, hB_2, hB_r, hU_0, hU_1, hU_2, hU_r, hX_r, hL_0, hL_1, hL_2, hL_r, hC_s, h_k0, h_k1, h_k2, h_k3, h_k4, h_k5, h_k6, h_k7, h_k8, h_k9, h_k10, h_k11, h_k12, h_k14, h_k16, h_k18, h_k20, h_k23, h_k24, h_k25, h_k32, h_k44, h_k48, h_k50, h_k54, h_k57, h_k58, h_k59, h_k60, h_k63, h_k97, h_k100, h_k122, h_k177, h_k255, h_k400, h_k450, h_k625, h_k649, h_k708, h_k800, h_k900, h_k2500, h_k22500, h_k45000, h_kn1, h_kn2, h_kJ, h_kU, h_eI, h_eL, h_eR, h_eT, h_b1, h_eZ, h_not, h_b2, h_b0, h_b0L, h_gI, h_gL, h_gN, h_gR, h_aI, h_aL, h_aR, h_aLen, h_tern, h_and, h_or, h_vN, h_vI, h_vJ, h_vA, h_cFv, h_cFs, h_toI, h_toL, h_toV, h_nO, h_nA, g_skip, g_brk, g_cnt, g_retV, g_seq, g_if, g_setI, g_setR, g_setL, g_inc, g_putI, g_putZ, g_putL, g_putR, g_upI, g_AI, g_AL, g_AR, g_UA, g_exp, g_retI, g_retL, g_retZ, g_scope, g_unBrk, g_sup, h_fn, argE_n, argE_i, argE_r, argE_l, argE_a, sto_0, sto_s, sto_n0, sto_ns, isL_i, isL_r, isL_n, isL_a, isL_l, isL_0, rcv_r, rcv_a, List.getElem?_cons_zero, List.getElem?_cons_succ, List.getElem?_nil, List.set_cons_zero, List.set_cons_succ, List.take_succ_cons, List.take_zero, List.take_nil, List.length_cons, List.length_nil, List.nil_append, List.cons_append, Nat.reduceAdd, Nat.reduceSub, Nat.reduceLT, Nat.reduceEqDiff, Nat.reduceLeDiff, Nat.zero_add, Nat.lt_irrefl, Nat.succ_sub_one, and_true, true_and, and_false, false_and, not_false_eq_true, not_true_eq_false, Bool.false_eq_true, Bool.not_true, Bool.not_false, Bool.not_eq_true', Bool.true_eq_false, decide_true, decide_false, decide_eq_true_eq, decide_eq_false_iff_not, Option.some.injEq, and_self, Nat.add_one_sub_one, Nat.lt_add_one, Nat.zero_lt_succ, Value.int.injEq, Value.ref.injEq, Value.long.injEq, exists_eq_left', exists_eq_left, Sum.inl.injEq, Sum.inr.injEq, i2z_b2i, h_vS, h_kN, Bool.true_or]
    · simp (disch := omega) only [hR_d, hT_d, hI_t, hI_f, hVI_s, hVL_s, hVR_s, hVT_s, hVV_s, hO_s, hB_0, hB_1, hB_2, hB_r, hU_0, hU_1, hU_2, hU_r, hX_r, hL_0, hL_1, hL_2, hL_r, hC_s, h_k0, h_k1, h_k2, h_k3, h_k4, h_k5, h_k6, h_k7, h_k8, h_k9, h_k10, h_k11, h_k12, h_k14, h_k16, h_k18, h_k20, h_k23, h_k24, h_k25, h_k32, h_k44, h_k48, h_k50, h_k54, h_k57, h_k58, h_k59, h_k60, h_k63, h_k97, h_k100, h_k122, h_k177, h_k255, h_k400, h_k450, h_k625, h_k649, h_k708, h_k800, h_k900, h_k2500, h_k22500, h_k45000, h_kn1, h_kn2, h_kJ, h_kU, h_eI, h_eL, h_eR, h_eT, h_b1, h_eZ, h_not, h_b2, h_b0, h_b0L, h_gI, h_gL, h_gN, h_gR, h_aI, h_aL, h_aR, h_aLen, h_tern, h_and, h_or, h_vN, h_vI, h_vJ, h_vA, h_cFv, h_cFs, h_toI, h_toL, h_toV, h_nO, h_nA, g_skip, g_brk, g_cnt, g_retV, g_seq, g_if, g_setI, g_setR, g_setL, g_inc, g_putI, g_putZ, g_putL, g_putR, g_upI, g_AI, g_AL, g_AR, g_UA, g_exp, g_retI, g_retL, g_retZ, g_scope, g_unBrk, g_sup, h_fn, argE_n, argE_i, argE_r, argE_l, argE_a, sto_0, sto_s, sto_n0, sto_ns, isL_i, isL_r, isL_n, isL_a, isL_l, isL_0, rcv_r, rcv_a, List.getElem?_cons_zero, List.getElem?_cons_succ, List.getElem?_nil, List.set_cons_zero, List.set_cons_succ, List.take_succ_cons, List.take_zero, List.take_nil, List.length_cons, List.length_nil, List.nil_append, List.cons_append, Nat.reduceAdd, Nat.reduceSub, Nat.reduceLT, Nat.reduceEqDiff, Nat.reduceLeDiff, Nat.zero_add, Nat.lt_irrefl, Nat.succ_sub_one, and_true, true_and, and_false, false_and, not_false_eq_true, not_true_eq_false, Bool.false_eq_true, Bool.not_true, Bool.not_false, Bool.not_eq_true', Bool.true_eq_false, decide_true, decide_false, decide_eq_true_eq, decide_eq_false_iff_not, Option.some.injEq, and_self, Nat.add_one_sub_one, Nat.lt_add_one, Nat.zero_lt_succ, Value.int.injEq, Value.ref.injEq, Value.long.injEq, exists_eq_left', exists_eq_left, Sum.inl.injEq, Sum.inr.injEq, i2z_b2i, h_vS, h_kN, n32_add, n32_mul, n32_inc, n_iEq, n_iNe, n_iLt, n_iLe, n_iGt, n_iGe, n_zEq, n_zLt, n_zLe, n_zGt, n_zGe, n_inb, n32_clamp, h.T.t, h.r4, h.D.t, h.D.r18, h.D.t10, h.D.r10, h.D.t2, V.tk y yK, st, hy, gt_iff_lt, Bool.false_or]
      exact propext ⟨fun z => z.2, fun z => ⟨by omega, z⟩⟩
/-- a row more -/
theorem MQd.add {m M' : qM} {S y i : Nat} (Q : MQd (pI m (C + 4) S (n32 (lC lo S))) C p lo nm fl) (O : PlOK p) (hS2 : S < 2) (hy : y < pK p) (hi : lC lo S = i) (h12 : i < 12) (h12u : ∀ u, u < 2 → u ≠ S → lC lo u ≤ 12) (hM : M' = pI (pI m (C + 2) (2 * S + pCol p y) (n32 (lS lo S (pCol p y) - pTk p y))) (C + 3) (12 * S + i) (n32 y)) : MQd (pI M' (C + 4) S (n32 (lC (lAdd p lo S y) S))) C p (lAdd p lo S y) nm fl := by
  have hcl := O.col y hy
  have hcs := O.cols
  have k : ∀ a j, ¬ ((a = C + 2 ∧ j = 2 * S + pCol p y) ∨ (a = C + 3 ∧ j = 12 * S + i) ∨ (a = C + 4 ∧ j = S)) → vi (pI M' (C + 4) S (n32 (lC (lAdd p lo S y) S))) a j = vi (pI m (C + 4) S (n32 (lC lo S))) a j := fun a j hn => by
    rw [hM, vi_pI, vi_pI, if_neg (by omega), vi_pI, if_neg (by omega), vi_pI, if_neg (by omega), if_neg (by omega)]
  have kl : vl (pI M' (C + 4) S (n32 (lC (lAdd p lo S y) S))) = vl (pI m (C + 4) S (n32 (lC lo S))) := by rw [hM]; rfl
  refine ⟨Q.V.kp (fun a j hn => k a j (by omega)), ⟨by rw [k _ _ (by omega)]; exact Q.N.nn, Q.N.n14, fun i hi => by rw [kl, k _ _ (by omega), k _ _ (by omega)]; exact Q.N.nw i hi, Q.N.ok⟩, by rw [k _ _ (by omega)]; exact Q.told, fun u c hu hc => ?_, fun u j hu hj => ?_, fun u hu => ?_, fun u hu => by rw [k _ _ (by omega)]; exact Q.iw u hu, fun r hr => by rw [k _ _ (by omega)]; exact Q.inx r hr, fun r hr => by rw [k _ _ (by omega)]; exact Q.ian r hr, fun r hr hk => by rw [k _ _ (by omega)]; exact Q.z11 r hr hk⟩
  · show _ = n32 (u2 (lS lo) S (pCol p y) (lS lo S (pCol p y) - pTk p y) u c)
    unfold u2
    by_cases e : u = S ∧ c = pCol p y
    · obtain ⟨rfl, rfl⟩ := e
      rw [if_pos ⟨rfl, rfl⟩, hM, vi_ne (by omega), vi_ne (by omega), vi_self]
    · rw [if_neg e, k _ _ (by omega)]
      exact Q.st u c hu hc
  · show _ = n32 (u2 (lR lo) S (lC lo S) y u j)
    have hj : j < u1 (lC lo) S (lC lo S + 1) u := hj
    unfold u1 at hj
    unfold u2
    by_cases e : u = S
    · subst e
      rw [if_pos rfl] at hj
      by_cases e2 : j = lC lo u
      · rw [if_pos ⟨rfl, e2⟩, hM, vi_ne (by omega), vi_pI, if_pos ⟨rfl, by omega⟩]
      · rw [if_neg (fun z => e2 z.2), k _ _ (by omega)]
        exact Q.wv u j hu (by omega)
    · rw [if_neg e] at hj
      rw [if_neg (fun z => e z.1)]
      by_cases e3 : 12 * u + j = 12 * S + i
      · exfalso
        have hw := h12u u hu e
        omega
      · rw [k _ _ (by omega)]
        exact Q.wv u j hu hj
  · by_cases e : u = S
    · subst e; rw [vi_self]
    · rw [k _ _ (by omega)]
      show _ = n32 (u1 (lC lo) S (lC lo S + 1) u)
      unfold u1
      rw [if_neg e]
      exact Q.wm u hu
end
