/-! THE REFERENCE'S READER: motifs -/
theorem ClothV.u_mo2 {M m : qM} {C : Nat} {p : Pl} (h : ClothV M C p) (O : PlOK p) {q l : Nat} {R : Nat → Nat} (hm : pMs p < 4) (hk : q < 4) (hl : l ≤ 4) (hR : ∀ i, i < l → R i < pK p) (k : ∀ a j, (C ≤ a ∧ a ≤ C + 21) ∧ ¬ ((a = C + 13 ∧ j = pMs p) ∨ (a = C + 14 ∧ j = pMs p) ∨ (a = C + 15 ∧ 4 * pMs p ≤ j ∧ j < 4 * pMs p + 4) ∨ (a = C ∧ j = 4)) → vi m a j = vi M a j) (emk : vi m (C + 13) (pMs p) = n32 q) (eml : vi m (C + 14) (pMs p) = n32 l) (emr : ∀ i, i < l → vi m (C + 15) (4 * pMs p + i) = n32 (R i)) (ems : vi m C 4 = n32 (pMs p + 1)) : ClothV m C (plM p q l R) := by
  have OO := O
  exact ⟨by rw [k _ _ (by omega)]; show _ = n32 (plM p q l R 0 0); rw [plM_f (by decide)]; exact h.len,
  by rw [k _ _ (by omega)]; show _ = n32 (plM p q l R 1 0); rw [plM_f (by decide)]; exact h.sl,
  by rw [k _ _ (by omega)]; show _ = n32 (plM p q l R 4 0); rw [plM_f (by decide)]; exact h.cols,
  by rw [k _ _ (by omega)]; show _ = n32 (plM p q l R 5 0); rw [plM_f (by decide)]; exact h.kinds,
  by rw [plM_ms]; exact ems,
  by rw [k _ _ (by omega)]; show _ = n32 (plM p q l R 16 0); rw [plM_f (by decide)]; exact h.nn,
  by rw [k _ _ (by omega)]; show _ = n32 (plM p q l R 2 0); rw [plM_f (by decide)]; exact h.rate,
  by rw [k _ _ (by omega)]; show _ = n32 (plM p q l R 3 0); rw [plM_f (by decide)]; exact h.h0,
  by rw [k _ _ (by omega)]; show _ = n32 (plM p q l R 3 1); rw [plM_f (by decide)]; exact h.h1,
  fun r hr => by have hr : r < plM p q l R 5 0 := hr; rw [plM_f (by decide)] at hr; rw [k _ _ (by omega)]; show _ = b2i (decide (plM p q l R 9 r = 1)); rw [plM_f (by decide)]; exact h.sm r hr,
  fun r hr => by have hr : r < plM p q l R 5 0 := hr; rw [plM_f (by decide)] at hr; rw [k _ _ (by omega)]; show _ = n32 (plM p q l R 6 r); rw [plM_f (by decide)]; exact h.col r hr,
  fun r hr => by have hr : r < plM p q l R 5 0 := hr; rw [plM_f (by decide)] at hr; rw [k _ _ (by omega)]; show _ = n32 (plM p q l R 7 r); rw [plM_f (by decide)]; exact h.tk r hr,
  fun r hr i => by have hr : r < plM p q l R 5 0 := hr; rw [plM_f (by decide)] at hr; rw [k _ _ (by omega), plM_nx]; exact h.nx r hr i,
  fun r hr => by have hr : r < plM p q l R 5 0 := hr; rw [plM_f (by decide)] at hr; rw [k _ _ (by omega)]; show _ = n32 (plM p q l R 8 r); rw [plM_f (by decide)]; exact h.par r hr,
  fun m hm => by rw [plM_ms] at hm; rw [plM_mk]; by_cases e : m = pMs p; (rw [if_pos e, e]; exact emk); (rw [if_neg e, k _ _ (by omega)]; exact h.mk m (by omega)),
  fun m hm => by rw [plM_ms] at hm; rw [plM_ml]; by_cases e : m = pMs p; (rw [if_pos e, e]; exact eml); (rw [if_neg e, k _ _ (by omega)]; exact h.ml m (by omega)),
  fun m i hm hi => by
    rw [plM_ms] at hm
    rw [plM_ml] at hi
    by_cases e : m = pMs p
    · rw [if_pos e] at hi
      rw [plM_mr p q l R (by omega), if_pos e, e]; exact emr i hi
    · rw [if_neg e] at hi
      have := OO.ml m (by omega)
      rw [plM_mr p q l R (by omega), if_neg e, k _ _ (by omega)]; exact h.mr m i (by omega) hi,
  fun i hi => by have hi : i < plM p q l R 16 0 := hi; rw [plM_f (by decide)] at hi; rw [k _ _ (by omega)]; show _ = n32 (plM p q l R 17 i); rw [plM_f (by decide)]; exact h.ns i hi,
  fun i hi => by have hi : i < plM p q l R 16 0 := hi; rw [plM_f (by decide)] at hi; rw [k _ _ (by omega)]; show _ = n32 (plM p q l R 18 i); rw [plM_f (by decide)]; exact h.nf i hi,
  fun i hi => by have hi : i < plM p q l R 16 0 := hi; rw [plM_f (by decide)] at hi; rw [k _ _ (by omega)]; show _ = n32 (plM p q l R 19 i); rw [plM_f (by decide)]; exact h.nt i hi⟩
noncomputable def moK : Ev Int32 := (tern (b1 i2z (toI (cFv 11 f_X10_eatsWord (vS (vA vN (eR 0)) (eK 36))))) (eK (0 : Int32)) (tern (b1 i2z (toI (cFv 11 f_X10_eatsWord (vS (vA vN (eR 0)) (eK 37))))) (eK (1 : Int32)) (tern (b1 i2z (toI (cFv 11 f_X10_eatsWord (vS (vA vN (eR 0)) (eK 38))))) (eK (2 : Int32)) (tern (b1 i2z (toI (cFv 11 f_X10_eatsWord (vS (vA vN (eR 0)) (eK 39))))) (eK (3 : Int32)) (eK (-1 : Int32))))))
noncomputable def mo1 : Ev Bool := (b2 iEq (eI 3) (eK (-1 : Int32)))
noncomputable def moI1 : Sv := (sIf mo1 (sExp (toV (cFv 11 f_X10_flaw (vI (vA vN (eR 0)) (eK (1 : Int32)))))) sSkip)
noncomputable def mo2 : Ev Bool := (b2 iEq (eI 4) (eK (4 : Int32)))
noncomputable def moI2 : Sv := (sIf mo2 (sExp (toV (cFv 11 f_X10_flaw (vI (vA vN (eR 0)) (eK (5 : Int32)))))) sSkip)
noncomputable def moW : Sv := (sSeq (sAI 20 (gR 10 23 (gR 11 4 (eR 0))) (b2 (fun x y => x + y) (b2 (fun x y => x * y) (eK (4 : Int32)) (gI 10 4 (gR 11 4 (eR 0)))) (eI 4)) (eI 6)) (sSeq (sInc 4 (1)) (sSetI 5 (toI (cFv 11 f_X10_eatsSign (vI (vA vN (eR 0)) (eK (44 : Int32))))))))
noncomputable def moL : Sv := (sLoop (cAnd (b1 i2z (eI 5)) (b2 iNe (gI 11 9 (eR 0)) (eK (5 : Int32)))) (sScope 6 (sSeq (sSetI 6 (toI (cFv 11 f_X10_known (vI (vA vN (eR 0)) (eK (1 : Int32)))))) (sSeq moI2 (sSeq (sExp (toV (cFv 11 f_X10_goesOn (vA vN (eR 0))))) (sSeq (sIf (b2 iEq (gI 11 9 (eR 0)) (eK (5 : Int32))) sRetV sSkip) moW))))) sSkip)
noncomputable def moT : Sv := (sSeq (sExp (toV (cFv 11 f_X10_names (vI (vI (vJ (vA vN (eR 0)) (eL 1)) (eK (2 : Int32))) (gI 10 4 (gR 11 4 (eR 0))))))) (sSeq (sAI 20 (gR 10 21 (gR 11 4 (eR 0))) (gI 10 4 (gR 11 4 (eR 0))) (eI 3)) (sSeq (sAI 20 (gR 10 22 (gR 11 4 (eR 0))) (gI 10 4 (gR 11 4 (eR 0))) (eI 4)) (sUpI 10 4 (gR 11 4 (eR 0)) (fun x y => x + y) (eK (1 : Int32))))))
theorem mmo_eq : b_X10_readMotif = (sSeq (sScope 1 (sSeq (sExp (toV (cFv 11 f_X10_begins (vI (vI (vA vN (eR 0)) (gI 10 4 (gR 11 4 (eR 0)))) (eK (4 : Int32)))))) (sSeq (sSetL 1 (toL (cFv 11 f_X10_readFresh (vA vN (eR 0))))) (sSeq (sSetI 3 moK) (sSeq moI1 (sSeq (sSetI 4 (eK (0 : Int32))) (sSeq (sSetI 5 (eK (1 : Int32))) (sSeq moL (sSeq (sIf (b2 iEq (gI 11 9 (eR 0)) (eK (5 : Int32))) sRetV sSkip) moT))))))))) sRetV) := rfl
section
variable {M : qM} {X C n q : Nat} {tp : Nat → Int32} {σ : Pr Nat} {p : Pl} {lo : Lo} {nm : Nm} {fl : Fl}
def mkI (o : Option Nat) : Int32 := match o with
  | none => -1
  | some k => n32 k
def mkS (tp : Nat → Int32) (n : Nat) (σ : Pr Nat) : Option Nat := match σ with
  | .inl _ => none
  | .inr q => mkO tp n q
def moS (tp : Nat → Int32) (n : Nat) (σ : Pr Nat) : Pr Nat := match σ with
  | .inl e => .inl e
  | .inr q => match mkO tp n q with
    | none => .inr q
    | some _ => .inr (tkE tp n q)
theorem mkO_lt {k : Nat} (h : mkO tp n q = some k) : k < 4 := by
  unfold mkO at h
  split at h
  · cases h; decide
  · split at h
    · cases h; decide
    · split at h
      · cases h; decide
      · split at h
        · cases h; decide
        · cases h
theorem m_moK (h : MB M X C n tp) (s : MS M X tp n σ) {e : qE} (h0 : e[0]? = some (.ref X)) : ∃ M', XF M M' X ∧ MS M' X tp n (moS tp n σ) ∧ ∀ (Q : Int32 → qM → Prop) (u : Hd (moK, Q)), hE moK e M Q u = hR (mkI (mkS tp n σ)) M' Q () := by
  obtain ⟨M1, e1, f1, s1⟩ := m_eatsW h s (i := 36) (j := 16) rfl (by decide)
  have h1 := f1.mb h
  cases b1 : isWs tp n σ 16 with
  | true =>
    rw [b1, if_pos rfl] at s1
    rw [b1] at e1
    cases σ with
    | inl y => cases b1
    | inr q =>
      have b1 : isW tp n q 16 = true := b1
      have o : mkO tp n q = some 0 := by unfold mkO; rw [if_pos b1]
      refine ⟨M1, f1, by unfold moS; simp only [o]; exact s1, fun Q u => ?_⟩
      show hE moK e M Q () = hR (mkI (mkO tp n q)) M1 Q ()
      rw [o]
      unfold moK
      simp (disch := omega) only [hR_d, hT_d, hI_t, hI_f, hVI_s, hVL_s, hVR_s, hVT_s, hVV_s, hO_s, hB_0, hB_1, hB_2, hB_r, hU_0, hU_1, hU_2, hU_r, hX_r, hL_0, hL_1, hL_2, hL_r, hC_s, h_k0, h_k1, h_k2, h_k3, h_k4, h_k5, h_k6, h_k7, h_k8, h_k9, h_k10, h_k11, h_k12, h_k14, h_k16, h_k18, h_k20, h_k23, h_k24, h_k25, h_k32, h_k44, h_k48, h_k50, h_k54, h_k57, h_k58, h_k59, h_k60, h_k63, h_k97, h_k100, h_k122, h_k177, h_k255, h_k400, h_k450, h_k625, h_k649, h_k708, h_k800, h_k900, h_k2500, h_k22500, h_k45000, h_kn1, h_kn2, h_kJ, h_kU, h_eI, h_eL, h_eR, h_eT, h_b1, h_eZ, h_not, h_b2, h_b0, h_b0L, h_gI, h_gL, h_gN, h_gR, h_aI, h_aL, h_aR, h_aLen, h_tern, h_and, h_or, h_vN, h_vI, h_vJ, h_vA, h_cFv, h_cFs, h_toI, h_toL, h_toV, h_nO, h_nA, g_skip, g_brk, g_cnt, g_retV, g_seq, g_if, g_setI, g_setR, g_setL, g_inc, g_putI, g_putZ, g_putL, g_putR, g_upI, g_AI, g_AL, g_AR, g_UA, g_exp, g_retI, g_retL, g_retZ, g_scope, g_unBrk, g_sup, h_fn, argE_n, argE_i, argE_r, argE_l, argE_a, sto_0, sto_s, sto_n0, sto_ns, isL_i, isL_r, isL_n, isL_a, isL_l, isL_0, rcv_r, rcv_a, List.getElem?_cons_zero, List.getElem?_cons_succ, List.getElem?_nil, List.set_cons_zero, List.set_cons_succ, List.take_succ_cons, List.take_zero, List.take_nil, List.length_cons, List.length_nil, List.nil_append, List.cons_append, Nat.reduceAdd, Nat.reduceSub, Nat.reduceLT, Nat.reduceEqDiff, Nat.reduceLeDiff, Nat.zero_add, Nat.lt_irrefl, Nat.succ_sub_one, and_true, true_and, and_false, false_and, not_false_eq_true, not_true_eq_false, Bool.false_eq_true, Bool.not_true, Bool.not_false, Bool.not_eq_true', Bool.true_eq_false, decide_true, decide_false, decide_eq_true_eq, decide_eq_false_iff_not, Option.some.injEq, and_self, Nat.add_one_sub_one, Nat.lt_add_one, Nat.zero_lt_succ, Value.int.injEq, Value.ref.injEq, Value.long.injEq, exists_eq_left', exists_eq_left, Sum.inl.injEq, Sum.inr.injEq, i2z_b2i, h_vS, h_kN, h0, h.T.t, h_of e1]
      rfl
  | false =>
  rw [b1, if_neg (by decide)] at s1
  rw [b1] at e1
  obtain ⟨M2, e2, f2, s2⟩ := m_eatsW h1 s1 (i := 37) (j := 17) rfl (by decide)
  have h2 := f2.mb h1
  cases b2 : isWs tp n σ 17 with
  | true =>
    rw [b2, if_pos rfl] at s2
    rw [b2] at e2
    cases σ with
    | inl y => cases b2
    | inr q =>
      have b1 : isW tp n q 16 = false := b1
      have b2 : isW tp n q 17 = true := b2
      have o : mkO tp n q = some 1 := by unfold mkO; rw [b1, if_neg (by decide), if_pos b2]
      refine ⟨M2, f1.trans f2, by unfold moS; simp only [o]; exact s2, fun Q u => ?_⟩
      show hE moK e M Q () = hR (mkI (mkO tp n q)) M2 Q ()
      rw [o]
      unfold moK
      simp (disch := omega) only [hR_d, hT_d, hI_t, hI_f, hVI_s, hVL_s, hVR_s, hVT_s, hVV_s, hO_s, hB_0, hB_1, hB_2, hB_r, hU_0, hU_1, hU_2, hU_r, hX_r, hL_0, hL_1, hL_2, hL_r, hC_s, h_k0, h_k1, h_k2, h_k3, h_k4, h_k5, h_k6, h_k7, h_k8, h_k9, h_k10, h_k11, h_k12, h_k14, h_k16, h_k18, h_k20, h_k23, h_k24, h_k25, h_k32, h_k44, h_k48, h_k50, h_k54, h_k57, h_k58, h_k59, h_k60, h_k63, h_k97, h_k100, h_k122, h_k177, h_k255, h_k400, h_k450, h_k625, h_k649, h_k708, h_k800, h_k900, h_k2500, h_k22500, h_k45000, h_kn1, h_kn2, h_kJ, h_kU, h_eI, h_eL, h_eR, h_eT, h_b1, h_eZ, h_not, h_b2, h_b0, h_b0L, h_gI, h_gL, h_gN, h_gR, h_aI, h_aL, h_aR, h_aLen, h_tern, h_and, h_or, h_vN, h_vI, h_vJ, h_vA, h_cFv, h_cFs, h_toI, h_toL, h_toV, h_nO, h_nA, g_skip, g_brk, g_cnt, g_retV, g_seq, g_if, g_setI, g_setR, g_setL, g_inc, g_putI, g_putZ, g_putL, g_putR, g_upI, g_AI, g_AL, g_AR, g_UA, g_exp, g_retI, g_retL, g_retZ, g_scope, g_unBrk, g_sup, h_fn, argE_n, argE_i, argE_r, argE_l, argE_a, sto_0, sto_s, sto_n0, sto_ns, isL_i, isL_r, isL_n, isL_a, isL_l, isL_0, rcv_r, rcv_a, List.getElem?_cons_zero, List.getElem?_cons_succ, List.getElem?_nil, List.set_cons_zero, List.set_cons_succ, List.take_succ_cons, List.take_zero, List.take_nil, List.length_cons, List.length_nil, List.nil_append, List.cons_append, Nat.reduceAdd, Nat.reduceSub, Nat.reduceLT, Nat.reduceEqDiff, Nat.reduceLeDiff, Nat.zero_add, Nat.lt_irrefl, Nat.succ_sub_one, and_true, true_and, and_false, false_and, not_false_eq_true, not_true_eq_false, Bool.false_eq_true, Bool.not_true, Bool.not_false, Bool.not_eq_true', Bool.true_eq_false, decide_true, decide_false, decide_eq_true_eq, decide_eq_false_iff_not, Option.some.injEq, and_self, Nat.add_one_sub_one, Nat.lt_add_one, Nat.zero_lt_succ, Value.int.injEq, Value.ref.injEq, Value.long.injEq, exists_eq_left', exists_eq_left, Sum.inl.injEq, Sum.inr.injEq, i2z_b2i, h_vS, h_kN, h0, h.T.t, h_of e1, h1.T.t, h_of e2]
      rfl
  | false =>
  rw [b2, if_neg (by decide)] at s2
  rw [b2] at e2
  obtain ⟨M3, e3, f3, s3⟩ := m_eatsW h2 s2 (i := 38) (j := 18) rfl (by decide)
  have h3 := f3.mb h2
  cases b3 : isWs tp n σ 18 with
  | true =>
    rw [b3, if_pos rfl] at s3
    rw [b3] at e3
    cases σ with
    | inl y => cases b3
    | inr q =>
      have b1 : isW tp n q 16 = false := b1
      have b2 : isW tp n q 17 = false := b2
      have b3 : isW tp n q 18 = true := b3
      have o : mkO tp n q = some 2 := by unfold mkO; rw [b1, b2, if_neg (by decide), if_neg (by decide), if_pos b3]
      refine ⟨M3, (f1.trans f2).trans f3, by unfold moS; simp only [o]; exact s3, fun Q u => ?_⟩
      show hE moK e M Q () = hR (mkI (mkO tp n q)) M3 Q ()
      rw [o]
      unfold moK
      simp (disch := omega) only [hR_d, hT_d, hI_t, hI_f, hVI_s, hVL_s, hVR_s, hVT_s, hVV_s, hO_s, hB_0, hB_1, hB_2, hB_r, hU_0, hU_1, hU_2, hU_r, hX_r, hL_0, hL_1, hL_2, hL_r, hC_s, h_k0, h_k1, h_k2, h_k3, h_k4, h_k5, h_k6, h_k7, h_k8, h_k9, h_k10, h_k11, h_k12, h_k14, h_k16, h_k18, h_k20, h_k23, h_k24, h_k25, h_k32, h_k44, h_k48, h_k50, h_k54, h_k57, h_k58, h_k59, h_k60, h_k63, h_k97, h_k100, h_k122, h_k177, h_k255, h_k400, h_k450, h_k625, h_k649, h_k708, h_k800, h_k900, h_k2500, h_k22500, h_k45000, h_kn1, h_kn2, h_kJ, h_kU, h_eI, h_eL, h_eR, h_eT, h_b1, h_eZ, h_not, h_b2, h_b0, h_b0L, h_gI, h_gL, h_gN, h_gR, h_aI, h_aL, h_aR, h_aLen, h_tern, h_and, h_or, h_vN, h_vI, h_vJ, h_vA, h_cFv, h_cFs, h_toI, h_toL, h_toV, h_nO, h_nA, g_skip, g_brk, g_cnt, g_retV, g_seq, g_if, g_setI, g_setR, g_setL, g_inc, g_putI, g_putZ, g_putL, g_putR, g_upI, g_AI, g_AL, g_AR, g_UA, g_exp, g_retI, g_retL, g_retZ, g_scope, g_unBrk, g_sup, h_fn, argE_n, argE_i, argE_r, argE_l, argE_a, sto_0, sto_s, sto_n0, sto_ns, isL_i, isL_r, isL_n, isL_a, isL_l, isL_0, rcv_r, rcv_a, List.getElem?_cons_zero, List.getElem?_cons_succ, List.getElem?_nil, List.set_cons_zero, List.set_cons_succ, List.take_succ_cons, List.take_zero, List.take_nil, List.length_cons, List.length_nil, List.nil_append, List.cons_append, Nat.reduceAdd, Nat.reduceSub, Nat.reduceLT, Nat.reduceEqDiff, Nat.reduceLeDiff, Nat.zero_add, Nat.lt_irrefl, Nat.succ_sub_one, and_true, true_and, and_false, false_and, not_false_eq_true, not_true_eq_false, Bool.false_eq_true, Bool.not_true, Bool.not_false, Bool.not_eq_true', Bool.true_eq_false, decide_true, decide_false, decide_eq_true_eq, decide_eq_false_iff_not, Option.some.injEq, and_self, Nat.add_one_sub_one, Nat.lt_add_one, Nat.zero_lt_succ, Value.int.injEq, Value.ref.injEq, Value.long.injEq, exists_eq_left', exists_eq_left, Sum.inl.injEq, Sum.inr.injEq, i2z_b2i, h_vS, h_kN, h0, h.T.t, h_of e1, h1.T.t, h_of e2, h2.T.t, h_of e3]
      rfl
  | false =>
  rw [b3, if_neg (by decide)] at s3
  rw [b3] at e3
  obtain ⟨M4, e4, f4, s4⟩ := m_eatsW h3 s3 (i := 39) (j := 19) rfl (by decide)
  have f04 := ((f1.trans f2).trans f3).trans f4
  cases b4 : isWs tp n σ 19 with
  | true =>
    rw [b4, if_pos rfl] at s4
    rw [b4] at e4
    cases σ with
    | inl y => cases b4
    | inr q =>
      have b1 : isW tp n q 16 = false := b1
      have b2 : isW tp n q 17 = false := b2
      have b3 : isW tp n q 18 = false := b3
      have b4 : isW tp n q 19 = true := b4
      have o : mkO tp n q = some 3 := by unfold mkO; rw [b1, b2, b3, if_neg (by decide), if_neg (by decide), if_neg (by decide), if_pos b4]
      refine ⟨M4, f04, by unfold moS; simp only [o]; exact s4, fun Q u => ?_⟩
      show hE moK e M Q () = hR (mkI (mkO tp n q)) M4 Q ()
      rw [o]
      unfold moK
      simp (disch := omega) only [hR_d, hT_d, hI_t, hI_f, hVI_s, hVL_s, hVR_s, hVT_s, hVV_s, hO_s, hB_0, hB_1, hB_2, hB_r, hU_0, hU_1, hU_2, hU_r, hX_r, hL_0, hL_1, hL_2, hL_r, hC_s, h_k0, h_k1, h_k2, h_k3, h_k4, h_k5, h_k6, h_k7, h_k8, h_k9, h_k10, h_k11, h_k12, h_k14, h_k16, h_k18, h_k20, h_k23, h_k24, h_k25, h_k32, h_k44, h_k48, h_k50, h_k54, h_k57, h_k58, h_k59, h_k60, h_k63, h_k97, h_k100, h_k122, h_k177, h_k255, h_k400, h_k450, h_k625, h_k649, h_k708, h_k800, h_k900, h_k2500, h_k22500, h_k45000, h_kn1, h_kn2, h_kJ, h_kU, h_eI, h_eL, h_eR, h_eT, h_b1, h_eZ, h_not, h_b2, h_b0, h_b0L, h_gI, h_gL, h_gN, h_gR, h_aI, h_aL, h_aR, h_aLen, h_tern, h_and, h_or, h_vN, h_vI, h_vJ, h_vA, h_cFv, h_cFs, h_toI, h_toL, h_toV, h_nO, h_nA, g_skip, g_brk, g_cnt, g_retV, g_seq, g_if, g_setI, g_setR, g_setL, g_inc, g_putI, g_putZ, g_putL, g_putR, g_upI, g_AI, g_AL, g_AR, g_UA, g_exp, g_retI, g_retL, g_retZ, g_scope, g_unBrk, g_sup, h_fn, argE_n, argE_i, argE_r, argE_l, argE_a, sto_0, sto_s, sto_n0, sto_ns, isL_i, isL_r, isL_n, isL_a, isL_l, isL_0, rcv_r, rcv_a, List.getElem?_cons_zero, List.getElem?_cons_succ, List.getElem?_nil, List.set_cons_zero, List.set_cons_succ, List.take_succ_cons, List.take_zero, List.take_nil, List.length_cons, List.length_nil, List.nil_append, List.cons_append, Nat.reduceAdd, Nat.reduceSub, Nat.reduceLT, Nat.reduceEqDiff, Nat.reduceLeDiff, Nat.zero_add, Nat.lt_irrefl, Nat.succ_sub_one, and_true, true_and, and_false, false_and, not_false_eq_true, not_true_eq_false, Bool.false_eq_true, Bool.not_true, Bool.not_false, Bool.not_eq_true', Bool.true_eq_false, decide_true, decide_false, decide_eq_true_eq, decide_eq_false_iff_not, Option.some.injEq, and_self, Nat.add_one_sub_one, Nat.lt_add_one, Nat.zero_lt_succ, Value.int.injEq, Value.ref.injEq, Value.long.injEq, exists_eq_left', exists_eq_left, Sum.inl.injEq, Sum.inr.injEq, i2z_b2i, h_vS, h_kN, h0, h.T.t, h_of e1, h1.T.t, h_of e2, h2.T.t, h_of e3, h3.T.t, h_of e4]
      rfl
  | false =>
    rw [b4, if_neg (by decide)] at s4
    rw [b4] at e4
    have o : mkS tp n σ = none := by
      cases σ with
      | inl y => rfl
      | inr q =>
        have b1 : isW tp n q 16 = false := b1
        have b2 : isW tp n q 17 = false := b2
        have b3 : isW tp n q 18 = false := b3
        have b4 : isW tp n q 19 = false := b4
        show mkO tp n q = none
        unfold mkO; rw [b1, b2, b3, b4, if_neg (by decide), if_neg (by decide), if_neg (by decide), if_neg (by decide)]
    have o2 : moS tp n σ = σ := by
      cases σ with
      | inl y => rfl
      | inr q =>
        have o : mkO tp n q = none := o
        unfold moS; simp only [o]
    refine ⟨M4, f04, by rw [o2]; exact s4, fun Q u => ?_⟩
    show hE moK e M Q () = _
    rw [o]
    unfold moK
    simp (disch := omega) only [hR_d, hT_d, hI_t, hI_f, hVI_s, hVL_s, hVR_s, hVT_s, hVV_s, hO_s, hB_0, hB_1, hB_2, hB_r, hU_0, hU_1, hU_2, hU_r, hX_r, hL_0, hL_1, hL_2, hL_r, hC_s, h_k0, h_k1, h_k2, h_k3, h_k4, h_k5, h_k6, h_k7, h_k8, h_k9, h_k10, h_k11, h_k12, h_k14, h_k16, h_k18, h_k20, h_k23, h_k24, h_k25, h_k32, h_k44, h_k48, h_k50, h_k54, h_k57, h_k58, h_k59, h_k60, h_k63, h_k97, h_k100, h_k122, h_k177, h_k255, h_k400, h_k450, h_k625, h_k649, h_k708, h_k800, h_k900, h_k2500, h_k22500, h_k45000, h_kn1, h_kn2, h_kJ, h_kU, h_eI, h_eL, h_eR, h_eT, h_b1, h_eZ, h_not, h_b2, h_b0, h_b0L, h_gI, h_gL, h_gN, h_gR, h_aI, h_aL, h_aR, h_aLen, h_tern, h_and, h_or, h_vN, h_vI, h_vJ, h_vA, h_cFv, h_cFs, h_toI, h_toL, h_toV, h_nO, h_nA, g_skip, g_brk, g_cnt, g_retV, g_seq, g_if, g_setI, g_setR, g_setL, g_inc, g_putI, g_putZ, g_putL, g_putR, g_upI, g_AI, g_AL, g_AR, g_UA, g_exp, g_retI, g_retL, g_retZ, g_scope, g_unBrk, g_sup, h_fn, argE_n, argE_i, argE_r, argE_l, argE_a, sto_0, sto_s, sto_n0, sto_ns, isL_i, isL_r, isL_n, isL_a, isL_l, isL_0, rcv_r, rcv_a, List.getElem?_cons_zero, List.getElem?_cons_succ, List.getElem?_nil, List.set_cons_zero, List.set_cons_succ, List.take_succ_cons, List.take_zero, List.take_nil, List.length_cons, List.length_nil, List.nil_append, List.cons_append, Nat.reduceAdd, Nat.reduceSub, Nat.reduceLT, Nat.reduceEqDiff, Nat.reduceLeDiff, Nat.zero_add, Nat.lt_irrefl, Nat.succ_sub_one, and_true, true_and, and_false, false_and, not_false_eq_true, not_true_eq_false, Bool.false_eq_true, Bool.not_true, Bool.not_false, Bool.not_eq_true', Bool.true_eq_false, decide_true, decide_false, decide_eq_true_eq, decide_eq_false_iff_not, Option.some.injEq, and_self, Nat.add_one_sub_one, Nat.lt_add_one, Nat.zero_lt_succ, Value.int.injEq, Value.ref.injEq, Value.long.injEq, exists_eq_left', exists_eq_left, Sum.inl.injEq, Sum.inr.injEq, i2z_b2i, h_vS, h_kN, h0, h.T.t, h_of e1, h1.T.t, h_of e2, h2.T.t, h_of e3, h3.T.t, h_of e4]
    rfl
def MoI (M0 : qM) (m : qM) (X : Nat) (C : Nat) (p : Pl) (i : Nat) (R : Nat → Nat) : Prop := (LF M0 m X C) ∧ (∀ a j, C ≤ a ∧ a ≤ C + 21 → ¬ (a = C + 15 ∧ 4 * pMs p ≤ j ∧ j < 4 * pMs p + 4) → vi m a j = vi M0 a j) ∧ (∀ a j, C ≤ a → vl m a j = vl M0 a j) ∧ (∀ j, j < i → vi m (C + 15) (4 * pMs p + j) = n32 (R j) ∧ R j < pK p)
theorem MoI.f {M0 : qM} {m : qM} {X : Nat} {C : Nat} {p : Pl} {i : Nat} {R : Nat → Nat} (h : MoI M0 m X C p i R) : LF M0 m X C := h.1
theorem MoI.k {M0 : qM} {m : qM} {X : Nat} {C : Nat} {p : Pl} {i : Nat} {R : Nat → Nat} (h : MoI M0 m X C p i R) : ∀ a j, C ≤ a ∧ a ≤ C + 21 → ¬ (a = C + 15 ∧ 4 * pMs p ≤ j ∧ j < 4 * pMs p + 4) → vi m a j = vi M0 a j := h.2.1
theorem MoI.l {M0 : qM} {m : qM} {X : Nat} {C : Nat} {p : Pl} {i : Nat} {R : Nat → Nat} (h : MoI M0 m X C p i R) : ∀ a j, C ≤ a → vl m a j = vl M0 a j := h.2.2.1
theorem MoI.R {M0 : qM} {m : qM} {X : Nat} {C : Nat} {p : Pl} {i : Nat} {R : Nat → Nat} (h : MoI M0 m X C p i R) : ∀ j, j < i → vi m (C + 15) (4 * pMs p + j) = n32 (R j) ∧ R j < pK p := h.2.2.2
theorem MoI.xf {M0 m m2 : qM} {i : Nat} {R : Nat → Nat} (J : MoI M0 m X C p i R) (h : MB m X C n tp) (f : XF m m2 X) : MoI M0 m2 X C p i R := by
  have d := h.d
  exact ⟨J.f.trans (f.lf C), fun a j ha hn => by rw [f.1.vi (by omega) j]; exact J.k a j ha hn, fun a j ha => by rw [f.1.vl (by omega) j]; exact J.l a j ha, fun j hj => by rw [f.1.vi (by omega)]; exact J.R j hj⟩
def MoQ (M0 : qM) (X C n : Nat) (tp : Nat → Int32) (p : Pl) (x : Int64) (k : Int32) (ρ : Pr (Nat × Nat × (Nat → Nat))) (r : Re) (e : qE) (m : qM) : Prop := ∃ τ, MS m X tp n τ ∧ LF M0 m X C ∧ ((∃ e0, ρ = .inl e0 ∧ τ = .inl e0 ∧ (r = .inr none ∨ (r = .inl 0 ∧ e[0]? = some (.ref X)))) ∨ (∃ q' i R w, ρ = .inr (q', i, R) ∧ τ = .inr q' ∧ r = .inl 0 ∧ e = [.ref X, .long x, .null, .int k, .int (n32 i), .int w] ∧ MoI M0 m X C p i R ∧ i ≤ 4))
theorem MoQ.r {M0 m : qM} {x : Int64} {k : Int32} {ρ : Pr (Nat × Nat × (Nat → Nat))} {e : qE} {e0 : Nat × Nat} (hr : ρ = .inl e0) (s : MS m X tp n (.inl e0)) (f : LF M0 m X C) : MoQ M0 X C n tp p x k ρ (.inr none) e m := ⟨.inl e0, s, f, Or.inl ⟨e0, hr, rfl, Or.inl rfl⟩⟩
theorem MoQ.f {M0 m : qM} {x : Int64} {k : Int32} {ρ : Pr (Nat × Nat × (Nat → Nat))} {e : qE} {e0 : Nat × Nat} (hr : ρ = .inl e0) (s : MS m X tp n (.inl e0)) (f : LF M0 m X C) (h0 : e[0]? = some (.ref X)) : MoQ M0 X C n tp p x k ρ (.inl 0) e m := ⟨.inl e0, s, f, Or.inl ⟨e0, hr, rfl, Or.inr ⟨rfl, h0⟩⟩⟩
theorem MoQ.s {M0 m : qM} {x : Int64} {k w : Int32} {q' i : Nat} {R : Nat → Nat} {ρ : Pr (Nat × Nat × (Nat → Nat))} (hr : ρ = .inr (q', i, R)) (s : MS m X tp n (.inr q')) (f : LF M0 m X C) (J : MoI M0 m X C p i R) (h4 : i ≤ 4) : MoQ M0 X C n tp p x k ρ (.inl 0) [.ref X, .long x, .null, .int k, .int (n32 i), .int w] m := ⟨.inr q', s, f, Or.inr ⟨q', i, R, w, hr, rfl, rfl, rfl, J, h4⟩⟩
theorem m_moL {M0 : qM} {x : Int64} {kv : Int32} (h0 : MB M0 X C n tp) (s0 : MS M0 X tp n σ) (N0 : NmR M0 C nm) (K : RdOK p lo nm fl) (c4 : vi M0 C 4 = n32 (pMs p)) (hm4 : pMs p < 4 ∨ ∃ e, σ = .inl e) : hS moL [.ref X, .long x, .null, .int kv, .int (n32 0), .int (n32 1)] M0 (MoQ M0 X C n tp p x kv (pB σ (pMotL tp n nm 5 0 (fun _ => 0)))) () := by
  have kk := K.O.kinds
  have mm := K.O.ms
  have d := h0.d
  generalize hρ : pB σ (pMotL tp n nm 5 0 (fun _ => 0)) = ρ
  unfold moL
  let I : Nat → qE → qM → Prop := fun k e m => ∃ τ, MS m X tp n τ ∧ LF M0 m X C ∧ ((∃ q' i R, τ = .inr q' ∧ pMs p < 4 ∧ k + i = 5 ∧ i ≤ 4 ∧ e = [.ref X, .long x, .null, .int kv, .int (n32 i), .int (b2i true)] ∧ ρ = pMotL tp n nm k i R q' ∧ MoI M0 m X C p i R) ∨ (k = 0 ∧ ∃ e0 b i, τ = .inl e0 ∧ ρ = .inl e0 ∧ e = [.ref X, .long x, .null, .int kv, .int i, .int (b2i b)]) ∨ (k = 0 ∧ ∃ q' i R, τ = .inr q' ∧ ρ = .inr (q', i, R) ∧ i ≤ 4 ∧ e = [.ref X, .long x, .null, .int kv, .int (n32 i), .int (b2i false)] ∧ MoI M0 m X C p i R))
  have start : ∃ k, I k [.ref X, .long x, .null, .int kv, .int (n32 0), .int (n32 1)] M0 := by
    cases σ with
    | inl e => exact ⟨0, .inl e, s0, ⟨Fr.refl _ _, fun _ _ => rfl⟩, Or.inr (Or.inl ⟨rfl, e, true, _, rfl, hρ.symm, rfl⟩)⟩
    | inr q => exact ⟨5, .inr q, s0, ⟨Fr.refl _ _, fun _ _ => rfl⟩, Or.inl ⟨q, 0, fun _ => 0, rfl, (by rcases hm4 with h | ⟨e, h⟩; exact h; cases h), rfl, by decide, rfl, hρ.symm, ⟨Fr.refl _ _, fun _ _ => rfl⟩, fun _ _ _ _ => rfl, fun _ _ _ => rfl, fun j hj => absurd hj (by omega)⟩⟩
  obtain ⟨k0, hk0⟩ := start
  refine h_dn I k0 hk0 ?_
  intro k e m ⟨τ, sm, fm, md⟩
  have hm := fm.mb h0
  rcases md with ⟨q', i, R, rfl, ms4, hk, h4, rfl, hr, J⟩ | ⟨rfl, e0, b, i, rfl, hr, rfl⟩ | ⟨rfl, q', i, R, rfl, hr, h4, rfl, J⟩
  · obtain ⟨k', rfl⟩ : ∃ k', k = k' + 1 := ⟨k - 1, by omega⟩
    have Nm : NmR m C nm := ⟨by rw [J.k _ _ (by omega) (by omega)]; exact N0.nn, N0.n14, fun i hi => by rw [J.l _ _ (by omega), J.k _ _ (by omega) (by omega), J.k _ _ (by omega) (by omega)]; exact N0.nw i hi, N0.ok⟩
    obtain ⟨y, M1, e1, f1, y8, s1, r1⟩ := m_known hm sm Nm (z := 1) (by decide)
    have h1 := f1.mb hm
    obtain ⟨M2, f2, s2, e2⟩ := m_cIf h1 s1 (c := mo2) (e := [.ref X, .long x, .null, .int kv, .int (n32 i), .int (b2i true), .int (n32 y)]) (b := decide (i = 4)) 5 5 rfl rfl (fun Q => by unfold mo2; simp (disch := omega) only [hR_d, hT_d, hI_t, hI_f, hVI_s, hVL_s, hVR_s, hVT_s, hVV_s, hO_s, hB_0, hB_1, hB_2, hB_r, hU_0, hU_1, hU_2, hU_r, hX_r, hL_0, hL_1, hL_2, hL_r, hC_s, h_k0, h_k1, h_k2, h_k3, h_k4, h_k5, h_k6, h_k7, h_k8, h_k9, h_k10, h_k11, h_k12, h_k14, h_k16, h_k18, h_k20, h_k23, h_k24, h_k25, h_k32, h_k44, h_k48, h_k50, h_k54, h_k57, h_k58, h_k59, h_k60, h_k63, h_k97, h_k100, h_k122, h_k177, h_k255, h_k400, h_k450, h_k625, h_k649, h_k708, h_k800, h_k900, h_k2500, h_k22500, h_k45000, h_kn1, h_kn2, h_kJ, h_kU, h_eI, h_eL, h_eR, h_eT, h_b1, h_eZ, h_not, h_b2, h_b0, h_b0L, h_gI, h_gL, h_gN, h_gR, h_aI, h_aL, h_aR, h_aLen, h_tern, h_and, h_or, h_vN, h_vI, h_vJ, h_vA, h_cFv, h_cFs, h_toI, h_toL, h_toV, h_nO, h_nA, g_skip, g_brk, g_cnt, g_retV, g_seq, g_if, g_setI, g_setR, g_setL, g_inc, g_putI, g_putZ, g_putL, g_putR, g_upI, g_AI, g_AL, g_AR, g_UA, g_exp, g_retI, g_retL, g_retZ, g_scope, g_unBrk, g_sup, h_fn, argE_n, argE_i, argE_r, argE_l, argE_a, sto_0, sto_s, sto_n0, sto_ns, isL_i, isL_r, isL_n, isL_a, isL_l, isL_0, rcv_r, rcv_a, List.getElem?_cons_zero, List.getElem?_cons_succ, List.getElem?_nil, List.set_cons_zero, List.set_cons_succ, List.take_succ_cons, List.take_zero, List.take_nil, List.length_cons, List.length_nil, List.nil_append, List.cons_append, Nat.reduceAdd, Nat.reduceSub, Nat.reduceLT, Nat.reduceEqDiff, Nat.reduceLeDiff, Nat.zero_add, Nat.lt_irrefl, Nat.succ_sub_one, and_true, true_and, and_false, false_and, not_false_eq_true, not_true_eq_false, Bool.false_eq_true, Bool.not_true, Bool.not_false, Bool.not_eq_true', Bool.true_eq_false, decide_true, decide_false, decide_eq_true_eq, decide_eq_false_iff_not, Option.some.injEq, and_self, Nat.add_one_sub_one, Nat.lt_add_one, Nat.zero_lt_succ, Value.int.injEq, Value.ref.injEq, Value.long.injEq, exists_eq_left', exists_eq_left, Sum.inl.injEq, Sum.inr.injEq, i2z_b2i, h_vS, h_kN, n_iEq, n_iNe, n_iLt, n_iLe, n_iGt, n_iGe, n_zEq, n_zLt, n_zLe, n_zGt, n_zGe, n_inb, n32_clamp])
    have h2 := f2.mb h1
    have f12 := f1.trans f2
    obtain ⟨M4, e4, f4, s4⟩ := m_gos h2 s2 (ok_f ok_kn)
    have hh4 := f4.mb h2
    have f14 := f12.trans f4
    have J4 := J.xf hm f14
    obtain ⟨z, z1, z2, z3⟩ := sm.o
    have z5 : ¬ z = 5 := of_decide_eq_false z3
    obtain ⟨w, w1, w2, w3⟩ := s4.o
    have E2 : ∀ (Q : Re → qE → qM → Prop) (u : Hd (moI2, Q)), hS moI2 _ M1 Q u = Q (.inl 0) _ M2 := e2
    simp (disch := omega) only [hR_d, hT_d, hI_t, hI_f, hVI_s, hVL_s, hVR_s, hVT_s, hVV_s, hO_s, hB_0, hB_1, hB_2, hB_r, hU_0, hU_1, hU_2, hU_r, hX_r, hL_0, hL_1, hL_2, hL_r, hC_s, h_k0, h_k1, h_k2, h_k3, h_k4, h_k5, h_k6, h_k7, h_k8, h_k9, h_k10, h_k11, h_k12, h_k14, h_k16, h_k18, h_k20, h_k23, h_k24, h_k25, h_k32, h_k44, h_k48, h_k50, h_k54, h_k57, h_k58, h_k59, h_k60, h_k63, h_k97, h_k100, h_k122, h_k177, h_k255, h_k400, h_k450, h_k625, h_k649, h_k708, h_k800, h_k900, h_k2500, h_k22500, h_k45000, h_kn1, h_kn2, h_kJ, h_kU, h_eI, h_eL, h_eR, h_eT, h_b1, h_eZ, h_not, h_b2, h_b0, h_b0L, h_gI, h_gL, h_gN, h_gR, h_aI, h_aL, h_aR, h_aLen, h_tern, h_and, h_or, h_vN, h_vI, h_vJ, h_vA, h_cFv, h_cFs, h_toI, h_toL, h_toV, h_nO, h_nA, g_skip, g_brk, g_cnt, g_retV, g_seq, g_if, g_setI, g_setR, g_setL, g_inc, g_putI, g_putZ, g_putL, g_putR, g_upI, g_AI, g_AL, g_AR, g_UA, g_exp, g_retI, g_retL, g_retZ, g_scope, g_unBrk, g_sup, h_fn, argE_n, argE_i, argE_r, argE_l, argE_a, sto_0, sto_s, sto_n0, sto_ns, isL_i, isL_r, isL_n, isL_a, isL_l, isL_0, rcv_r, rcv_a, List.getElem?_cons_zero, List.getElem?_cons_succ, List.getElem?_nil, List.set_cons_zero, List.set_cons_succ, List.take_succ_cons, List.take_zero, List.take_nil, List.length_cons, List.length_nil, List.nil_append, List.cons_append, Nat.reduceAdd, Nat.reduceSub, Nat.reduceLT, Nat.reduceEqDiff, Nat.reduceLeDiff, Nat.zero_add, Nat.lt_irrefl, Nat.succ_sub_one, and_true, true_and, and_false, false_and, not_false_eq_true, not_true_eq_false, Bool.false_eq_true, Bool.not_true, Bool.not_false, Bool.not_eq_true', Bool.true_eq_false, decide_true, decide_false, decide_eq_true_eq, decide_eq_false_iff_not, Option.some.injEq, and_self, Nat.add_one_sub_one, Nat.lt_add_one, Nat.zero_lt_succ, Value.int.injEq, Value.ref.injEq, Value.long.injEq, exists_eq_left', exists_eq_left, Sum.inl.injEq, Sum.inr.injEq, i2z_b2i, h_vS, h_kN, n32_add, n32_mul, n32_inc, n_iEq, n_iNe, n_iLt, n_iLe, n_iGt, n_iGe, n_zEq, n_zLt, n_zLe, n_zGt, n_zGe, n_inb, n32_clamp, hm.T.t, ne_eq, z1, z5, h_of e1, h1.T.t, E2, h2.T.t, h_of e4, hh4.T.t, w1]
    have fin : ∀ e0, ρ = .inl e0 → gos tp n (fwS tp n 5 (decide (i = 4)) (knS tp n nm 1 (.inr q'))) = .inl e0 → w = 5 ∧ MS M4 X tp n (.inl e0) := fun e0 r g => by
      rw [g] at s4 w3
      exact ⟨of_decide_eq_true w3, s4⟩
    have F4 := J4.f
    have hr2 := hr
    rw [pMotL_s] at hr2
    cases y1 : pKn tp n nm 1 q' with
    | inl e0 =>
      simp only [y1, pB_l] at hr2
      obtain ⟨w5, s5⟩ := fin e0 hr2 (by rw [knS_f y1, fwS_l, gos_l])
      simp only [hR_d, hT_d, hI_t, hI_f, hVI_s, hVL_s, hVR_s, hVT_s, hVV_s, hO_s, hB_0, hB_1, hB_2, hB_r, hU_0, hU_1, hU_2, hU_r, hX_r, hL_0, hL_1, hL_2, hL_r, hC_s, h_k0, h_k1, h_k2, h_k3, h_k4, h_k5, h_k6, h_k7, h_k8, h_k9, h_k10, h_k11, h_k12, h_k14, h_k16, h_k18, h_k20, h_k23, h_k24, h_k25, h_k32, h_k44, h_k48, h_k50, h_k54, h_k57, h_k58, h_k59, h_k60, h_k63, h_k97, h_k100, h_k122, h_k177, h_k255, h_k400, h_k450, h_k625, h_k649, h_k708, h_k800, h_k900, h_k2500, h_k22500, h_k45000, h_kn1, h_kn2, h_kJ, h_kU, h_eI, h_eL, h_eR, h_eT, h_b1, h_eZ, h_not, h_b2, h_b0, h_b0L, h_gI, h_gL, h_gN, h_gR, h_aI, h_aL, h_aR, h_aLen, h_tern, h_and, h_or, h_vN, h_vI, h_vJ, h_vA, h_cFv, h_cFs, h_toI, h_toL, h_toV, h_nO, h_nA, g_skip, g_brk, g_cnt, g_retV, g_seq, g_if, g_setI, g_setR, g_setL, g_inc, g_putI, g_putZ, g_putL, g_putR, g_upI, g_AI, g_AL, g_AR, g_UA, g_exp, g_retI, g_retL, g_retZ, g_scope, g_unBrk, g_sup, h_fn, argE_n, argE_i, argE_r, argE_l, argE_a, sto_0, sto_s, sto_n0, sto_ns, isL_i, isL_r, isL_n, isL_a, isL_l, isL_0, rcv_r, rcv_a, List.getElem?_cons_zero, List.getElem?_cons_succ, List.getElem?_nil, List.set_cons_zero, List.set_cons_succ, List.take_succ_cons, List.take_zero, List.take_nil, List.length_cons, List.length_nil, List.nil_append, List.cons_append, Nat.reduceAdd, Nat.reduceSub, Nat.reduceLT, Nat.reduceEqDiff, Nat.reduceLeDiff, Nat.zero_add, Nat.lt_irrefl, Nat.succ_sub_one, and_true, true_and, and_false, false_and, not_false_eq_true, not_true_eq_false, Bool.false_eq_true, Bool.not_true, Bool.not_false, Bool.not_eq_true', Bool.true_eq_false, decide_true, decide_false, decide_eq_true_eq, decide_eq_false_iff_not, Option.some.injEq, and_self, Nat.add_one_sub_one, Nat.lt_add_one, Nat.zero_lt_succ, Value.int.injEq, Value.ref.injEq, Value.long.injEq, exists_eq_left', exists_eq_left, Sum.inl.injEq, Sum.inr.injEq, i2z_b2i, h_vS, h_kN, w5]
      exact MoQ.r hr2 s5 F4
    | inr y' =>
    have ey := r1 q' y' rfl y1
    subst ey
    simp only [y1, pB_r] at hr2
    by_cases i4 : i = 4
    · rw [if_pos i4] at hr2
      obtain ⟨w5, s5⟩ := fin _ hr2 (by rw [knS_s y1, decide_eq_true i4, fwS_t]; rfl)
      simp only [hR_d, hT_d, hI_t, hI_f, hVI_s, hVL_s, hVR_s, hVT_s, hVV_s, hO_s, hB_0, hB_1, hB_2, hB_r, hU_0, hU_1, hU_2, hU_r, hX_r, hL_0, hL_1, hL_2, hL_r, hC_s, h_k0, h_k1, h_k2, h_k3, h_k4, h_k5, h_k6, h_k7, h_k8, h_k9, h_k10, h_k11, h_k12, h_k14, h_k16, h_k18, h_k20, h_k23, h_k24, h_k25, h_k32, h_k44, h_k48, h_k50, h_k54, h_k57, h_k58, h_k59, h_k60, h_k63, h_k97, h_k100, h_k122, h_k177, h_k255, h_k400, h_k450, h_k625, h_k649, h_k708, h_k800, h_k900, h_k2500, h_k22500, h_k45000, h_kn1, h_kn2, h_kJ, h_kU, h_eI, h_eL, h_eR, h_eT, h_b1, h_eZ, h_not, h_b2, h_b0, h_b0L, h_gI, h_gL, h_gN, h_gR, h_aI, h_aL, h_aR, h_aLen, h_tern, h_and, h_or, h_vN, h_vI, h_vJ, h_vA, h_cFv, h_cFs, h_toI, h_toL, h_toV, h_nO, h_nA, g_skip, g_brk, g_cnt, g_retV, g_seq, g_if, g_setI, g_setR, g_setL, g_inc, g_putI, g_putZ, g_putL, g_putR, g_upI, g_AI, g_AL, g_AR, g_UA, g_exp, g_retI, g_retL, g_retZ, g_scope, g_unBrk, g_sup, h_fn, argE_n, argE_i, argE_r, argE_l, argE_a, sto_0, sto_s, sto_n0, sto_ns, isL_i, isL_r, isL_n, isL_a, isL_l, isL_0, rcv_r, rcv_a, List.getElem?_cons_zero, List.getElem?_cons_succ, List.getElem?_nil, List.set_cons_zero, List.set_cons_succ, List.take_succ_cons, List.take_zero, List.take_nil, List.length_cons, List.length_nil, List.nil_append, List.cons_append, Nat.reduceAdd, Nat.reduceSub, Nat.reduceLT, Nat.reduceEqDiff, Nat.reduceLeDiff, Nat.zero_add, Nat.lt_irrefl, Nat.succ_sub_one, and_true, true_and, and_false, false_and, not_false_eq_true, not_true_eq_false, Bool.false_eq_true, Bool.not_true, Bool.not_false, Bool.not_eq_true', Bool.true_eq_false, decide_true, decide_false, decide_eq_true_eq, decide_eq_false_iff_not, Option.some.injEq, and_self, Nat.add_one_sub_one, Nat.lt_add_one, Nat.zero_lt_succ, Value.int.injEq, Value.ref.injEq, Value.long.injEq, exists_eq_left', exists_eq_left, Sum.inl.injEq, Sum.inr.injEq, i2z_b2i, h_vS, h_kN, w5]
      exact MoQ.r hr2 s5 F4
    · rw [if_neg i4] at hr2
      rw [knS_s y1, decide_eq_false i4, fwS_f, gos_r] at s4 w3
      have w5 : ¬ w = 5 := of_decide_eq_false w3
      have yK := pKn_row K y1
      have c44 : vi M4 C 4 = n32 (pMs p) := by rw [J4.k _ _ (by omega) (by omega)]; exact c4
      obtain ⟨M5, hM5⟩ : ∃ M5, M5 = pI M4 (C + 15) (4 * pMs p + i) (n32 y) := ⟨_, rfl⟩
      have k5 : ∀ a j, ¬ (a = C + 15 ∧ j = 4 * pMs p + i) → vi M5 a j = vi M4 a j := fun a j hn => by rw [hM5, vi_pI, if_neg hn]
      have F5' : LF M4 M5 X C := by
        refine ⟨?_, fun j hj => k5 _ j (by omega)⟩
        rw [hM5]
        exact (Fr.refl (mS X C) M4).pI _ _ (Or.inr ⟨by omega, by omega⟩)
      have h5 := F5'.mb hh4
      have s5 : MS M5 X tp n (.inr (tkE tp n q')) := s4.mv (fun j => k5 _ j (by omega)) (by rw [hM5]; rfl)
      obtain ⟨M6, e6, f6, s6⟩ := m_eatsS h5 s5 (c := 44) (k := 4) (Or.inr ⟨rfl, rfl⟩)
      have J5 : MoI M0 M5 X C p (i + 1) (fun j => if j = i then y else R j) := by
        refine ⟨F4.trans F5', fun a j ha hn => ?_, fun a j ha => ?_, fun j hj => ?_⟩
        · rw [k5 a j (by omega)]; exact J4.k a j ha hn
        · rw [hM5]; exact J4.l a j ha
        · dsimp only
          by_cases ej : j = i
          · rw [if_pos ej, hM5, vi_pI, if_pos ⟨rfl, by omega⟩]; exact ⟨rfl, yK⟩
          · rw [if_neg ej, k5 _ _ (by omega)]; exact J4.R j (by omega)
      have J6 := J5.xf h5 f6
      unfold moW
      simp (disch := omega) only [hR_d, hT_d, hI_t, hI_f, hVI_s, hVL_s, hVR_s, hVT_s, hVV_s, hO_s, hB_0, hB_1, hB_2, hB_r, hU_0, hU_1, hU_2, hU_r, hX_r, hL_0, hL_1, hL_2, hL_r, hC_s, h_k0, h_k1, h_k2, h_k3, h_k4, h_k5, h_k6, h_k7, h_k8, h_k9, h_k10, h_k11, h_k12, h_k14, h_k16, h_k18, h_k20, h_k23, h_k24, h_k25, h_k32, h_k44, h_k48, h_k50, h_k54, h_k57, h_k58, h_k59, h_k60, h_k63, h_k97, h_k100, h_k122, h_k177, h_k255, h_k400, h_k450, h_k625, h_k649, h_k708, h_k800, h_k900, h_k2500, h_k22500, h_k45000, h_kn1, h_kn2, h_kJ, h_kU, h_eI, h_eL, h_eR, h_eT, h_b1, h_eZ, h_not, h_b2, h_b0, h_b0L, h_gI, h_gL, h_gN, h_gR, h_aI, h_aL, h_aR, h_aLen, h_tern, h_and, h_or, h_vN, h_vI, h_vJ, h_vA, h_cFv, h_cFs, h_toI, h_toL, h_toV, h_nO, h_nA, g_skip, g_brk, g_cnt, g_retV, g_seq, g_if, g_setI, g_setR, g_setL, g_inc, g_putI, g_putZ, g_putL, g_putR, g_upI, g_AI, g_AL, g_AR, g_UA, g_exp, g_retI, g_retL, g_retZ, g_scope, g_unBrk, g_sup, h_fn, argE_n, argE_i, argE_r, argE_l, argE_a, sto_0, sto_s, sto_n0, sto_ns, isL_i, isL_r, isL_n, isL_a, isL_l, isL_0, rcv_r, rcv_a, List.getElem?_cons_zero, List.getElem?_cons_succ, List.getElem?_nil, List.set_cons_zero, List.set_cons_succ, List.take_succ_cons, List.take_zero, List.take_nil, List.length_cons, List.length_nil, List.nil_append, List.cons_append, Nat.reduceAdd, Nat.reduceSub, Nat.reduceLT, Nat.reduceEqDiff, Nat.reduceLeDiff, Nat.zero_add, Nat.lt_irrefl, Nat.succ_sub_one, and_true, true_and, and_false, false_and, not_false_eq_true, not_true_eq_false, Bool.false_eq_true, Bool.not_true, Bool.not_false, Bool.not_eq_true', Bool.true_eq_false, decide_true, decide_false, decide_eq_true_eq, decide_eq_false_iff_not, Option.some.injEq, and_self, Nat.add_one_sub_one, Nat.lt_add_one, Nat.zero_lt_succ, Value.int.injEq, Value.ref.injEq, Value.long.injEq, exists_eq_left', exists_eq_left, Sum.inl.injEq, Sum.inr.injEq, i2z_b2i, h_vS, h_kN, n32_add, n32_mul, n32_inc, n_iEq, n_iNe, n_iLt, n_iLe, n_iGt, n_iGe, n_zEq, n_zLt, n_zLe, n_zGt, n_zGe, n_inb, n32_clamp, tg_pI, tg_pL, tg_pR, vr_pI, vr_pL, vl_pI, vl_pR, vi_pL, vi_pR, mN_pI, mN_pL, mN_pR, mU_pI, mU_pL, mU_pR, w5, hh4.T.t, hh4.r4, hh4.D.t, hh4.D.r23, hh4.D.t15, c44, nar, Nat.reduceEqDiff, if_false, ← hM5, h5.T.t, h_of e6]
      refine ⟨by omega, ?_⟩
      rw [sgB_r] at s6 ⊢
      by_cases c4' : tkK tp n (tkE tp n q') = 4
      · rw [if_pos c4'] at hr2
        rw [decide_eq_true c4', if_pos rfl, gos_r] at s6
        rw [decide_eq_true c4']
        exact ⟨k', by omega, _, s6, J6.f, Or.inl ⟨_, i + 1, _, rfl, ms4, by omega, by omega, rfl, hr2, J6⟩⟩
      · rw [if_neg c4'] at hr2
        rw [decide_eq_false c4', if_neg (by decide)] at s6
        rw [decide_eq_false c4']
        exact ⟨0, by omega, _, s6, J6.f, Or.inr (Or.inr ⟨rfl, _, i + 1, _, rfl, hr2, by omega, rfl, J6⟩)⟩
  · have s9 := sm.1
    cases b
    · simp (disch := omega) only [hR_d, hT_d, hI_t, hI_f, hVI_s, hVL_s, hVR_s, hVT_s, hVV_s, hO_s, hB_0, hB_1, hB_2, hB_r, hU_0, hU_1, hU_2, hU_r, hX_r, hL_0, hL_1, hL_2, hL_r, hC_s, h_k0, h_k1, h_k2, h_k3, h_k4, h_k5, h_k6, h_k7, h_k8, h_k9, h_k10, h_k11, h_k12, h_k14, h_k16, h_k18, h_k20, h_k23, h_k24, h_k25, h_k32, h_k44, h_k48, h_k50, h_k54, h_k57, h_k58, h_k59, h_k60, h_k63, h_k97, h_k100, h_k122, h_k177, h_k255, h_k400, h_k450, h_k625, h_k649, h_k708, h_k800, h_k900, h_k2500, h_k22500, h_k45000, h_kn1, h_kn2, h_kJ, h_kU, h_eI, h_eL, h_eR, h_eT, h_b1, h_eZ, h_not, h_b2, h_b0, h_b0L, h_gI, h_gL, h_gN, h_gR, h_aI, h_aL, h_aR, h_aLen, h_tern, h_and, h_or, h_vN, h_vI, h_vJ, h_vA, h_cFv, h_cFs, h_toI, h_toL, h_toV, h_nO, h_nA, g_skip, g_brk, g_cnt, g_retV, g_seq, g_if, g_setI, g_setR, g_setL, g_inc, g_putI, g_putZ, g_putL, g_putR, g_upI, g_AI, g_AL, g_AR, g_UA, g_exp, g_retI, g_retL, g_retZ, g_scope, g_unBrk, g_sup, h_fn, argE_n, argE_i, argE_r, argE_l, argE_a, sto_0, sto_s, sto_n0, sto_ns, isL_i, isL_r, isL_n, isL_a, isL_l, isL_0, rcv_r, rcv_a, List.getElem?_cons_zero, List.getElem?_cons_succ, List.getElem?_nil, List.set_cons_zero, List.set_cons_succ, List.take_succ_cons, List.take_zero, List.take_nil, List.length_cons, List.length_nil, List.nil_append, List.cons_append, Nat.reduceAdd, Nat.reduceSub, Nat.reduceLT, Nat.reduceEqDiff, Nat.reduceLeDiff, Nat.zero_add, Nat.lt_irrefl, Nat.succ_sub_one, and_true, true_and, and_false, false_and, not_false_eq_true, not_true_eq_false, Bool.false_eq_true, Bool.not_true, Bool.not_false, Bool.not_eq_true', Bool.true_eq_false, decide_true, decide_false, decide_eq_true_eq, decide_eq_false_iff_not, Option.some.injEq, and_self, Nat.add_one_sub_one, Nat.lt_add_one, Nat.zero_lt_succ, Value.int.injEq, Value.ref.injEq, Value.long.injEq, exists_eq_left', exists_eq_left, Sum.inl.injEq, Sum.inr.injEq, i2z_b2i, h_vS, h_kN, n32_add, n32_mul, n32_inc, n_iEq, n_iNe, n_iLt, n_iLe, n_iGt, n_iGe, n_zEq, n_zLt, n_zLe, n_zGt, n_zGe, n_inb, n32_clamp, hm.T.t, ne_eq, s9]
      exact MoQ.f hr sm fm rfl
    · simp (disch := omega) only [hR_d, hT_d, hI_t, hI_f, hVI_s, hVL_s, hVR_s, hVT_s, hVV_s, hO_s, hB_0, hB_1, hB_2, hB_r, hU_0, hU_1, hU_2, hU_r, hX_r, hL_0, hL_1, hL_2, hL_r, hC_s, h_k0, h_k1, h_k2, h_k3, h_k4, h_k5, h_k6, h_k7, h_k8, h_k9, h_k10, h_k11, h_k12, h_k14, h_k16, h_k18, h_k20, h_k23, h_k24, h_k25, h_k32, h_k44, h_k48, h_k50, h_k54, h_k57, h_k58, h_k59, h_k60, h_k63, h_k97, h_k100, h_k122, h_k177, h_k255, h_k400, h_k450, h_k625, h_k649, h_k708, h_k800, h_k900, h_k2500, h_k22500, h_k45000, h_kn1, h_kn2, h_kJ, h_kU, h_eI, h_eL, h_eR, h_eT, h_b1, h_eZ, h_not, h_b2, h_b0, h_b0L, h_gI, h_gL, h_gN, h_gR, h_aI, h_aL, h_aR, h_aLen, h_tern, h_and, h_or, h_vN, h_vI, h_vJ, h_vA, h_cFv, h_cFs, h_toI, h_toL, h_toV, h_nO, h_nA, g_skip, g_brk, g_cnt, g_retV, g_seq, g_if, g_setI, g_setR, g_setL, g_inc, g_putI, g_putZ, g_putL, g_putR, g_upI, g_AI, g_AL, g_AR, g_UA, g_exp, g_retI, g_retL, g_retZ, g_scope, g_unBrk, g_sup, h_fn, argE_n, argE_i, argE_r, argE_l, argE_a, sto_0, sto_s, sto_n0, sto_ns, isL_i, isL_r, isL_n, isL_a, isL_l, isL_0, rcv_r, rcv_a, List.getElem?_cons_zero, List.getElem?_cons_succ, List.getElem?_nil, List.set_cons_zero, List.set_cons_succ, List.take_succ_cons, List.take_zero, List.take_nil, List.length_cons, List.length_nil, List.nil_append, List.cons_append, Nat.reduceAdd, Nat.reduceSub, Nat.reduceLT, Nat.reduceEqDiff, Nat.reduceLeDiff, Nat.zero_add, Nat.lt_irrefl, Nat.succ_sub_one, and_true, true_and, and_false, false_and, not_false_eq_true, not_true_eq_false, Bool.false_eq_true, Bool.not_true, Bool.not_false, Bool.not_eq_true', Bool.true_eq_false, decide_true, decide_false, decide_eq_true_eq, decide_eq_false_iff_not, Option.some.injEq, and_self, Nat.add_one_sub_one, Nat.lt_add_one, Nat.zero_lt_succ, Value.int.injEq, Value.ref.injEq, Value.long.injEq, exists_eq_left', exists_eq_left, Sum.inl.injEq, Sum.inr.injEq, i2z_b2i, h_vS, h_kN, n32_add, n32_mul, n32_inc, n_iEq, n_iNe, n_iLt, n_iLe, n_iGt, n_iGe, n_zEq, n_zLt, n_zLe, n_zGt, n_zGe, n_inb, n32_clamp, hm.T.t, ne_eq, s9]
      exact MoQ.f hr sm fm rfl
  · simp (disch := omega) only [hR_d, hT_d, hI_t, hI_f, hVI_s, hVL_s, hVR_s, hVT_s, hVV_s, hO_s, hB_0, hB_1, hB_2, hB_r, hU_0, hU_1, hU_2, hU_r, hX_r, hL_0, hL_1, hL_2, hL_r, hC_s, h_k0, h_k1, h_k2, h_k3, h_k4, h_k5, h_k6, h_k7, h_k8, h_k9, h_k10, h_k11, h_k12, h_k14, h_k16, h_k18, h_k20, h_k23, h_k24, h_k25, h_k32, h_k44, h_k48, h_k50, h_k54, h_k57, h_k58, h_k59, h_k60, h_k63, h_k97, h_k100, h_k122, h_k177, h_k255, h_k400, h_k450, h_k625, h_k649, h_k708, h_k800, h_k900, h_k2500, h_k22500, h_k45000, h_kn1, h_kn2, h_kJ, h_kU, h_eI, h_eL, h_eR, h_eT, h_b1, h_eZ, h_not, h_b2, h_b0, h_b0L, h_gI, h_gL, h_gN, h_gR, h_aI, h_aL, h_aR, h_aLen, h_tern, h_and, h_or, h_vN, h_vI, h_vJ, h_vA, h_cFv, h_cFs, h_toI, h_toL, h_toV, h_nO, h_nA, g_skip, g_brk, g_cnt, g_retV, g_seq, g_if, g_setI, g_setR, g_setL, g_inc, g_putI, g_putZ, g_putL, g_putR, g_upI, g_AI, g_AL, g_AR, g_UA, g_exp, g_retI, g_retL, g_retZ, g_scope, g_unBrk, g_sup, h_fn, argE_n, argE_i, argE_r, argE_l, argE_a, sto_0, sto_s, sto_n0, sto_ns, isL_i, isL_r, isL_n, isL_a, isL_l, isL_0, rcv_r, rcv_a, List.getElem?_cons_zero, List.getElem?_cons_succ, List.getElem?_nil, List.set_cons_zero, List.set_cons_succ, List.take_succ_cons, List.take_zero, List.take_nil, List.length_cons, List.length_nil, List.nil_append, List.cons_append, Nat.reduceAdd, Nat.reduceSub, Nat.reduceLT, Nat.reduceEqDiff, Nat.reduceLeDiff, Nat.zero_add, Nat.lt_irrefl, Nat.succ_sub_one, and_true, true_and, and_false, false_and, not_false_eq_true, not_true_eq_false, Bool.false_eq_true, Bool.not_true, Bool.not_false, Bool.not_eq_true', Bool.true_eq_false, decide_true, decide_false, decide_eq_true_eq, decide_eq_false_iff_not, Option.some.injEq, and_self, Nat.add_one_sub_one, Nat.lt_add_one, Nat.zero_lt_succ, Value.int.injEq, Value.ref.injEq, Value.long.injEq, exists_eq_left', exists_eq_left, Sum.inl.injEq, Sum.inr.injEq, i2z_b2i, h_vS, h_kN, n32_add, n32_mul, n32_inc, n_iEq, n_iNe, n_iLt, n_iLe, n_iGt, n_iGe, n_zEq, n_zLt, n_zLe, n_zGt, n_zGe, n_inb, n32_clamp, hm.T.t, ne_eq]
    exact MoQ.s hr sm fm J h4
end
