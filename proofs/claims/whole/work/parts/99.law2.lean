/-! THE LAW SAYS YES -/
section
variable {X : Nat × Nat × (Nat → Int32)} {M : qM}
theorem law_eq2 (X : Nat × Nat × (Nat → Int32)) : b_L_law X = (sScope 1 (sSeq (sSetR 1 (nO 9 15 f_X8_init)) (sSeq (sSetR 2 (nO 11 33 f_X10_init)) (sSeq (sSetR 3 (nA 21 (eK (1 : Int32)))) (sSeq (sScope 4 (sSeq (sSetI 4 (eK (0 : Int32))) (lwL X))) (sRetZ (eK (1 : Int32)))))))) := rfl
theorem wi_new (tp : Nat → Int32) {M1 M2 : qM} (n1 : mN M1 = mN M + 140) (c1 : Cls M1 (mN M) (mN M + 25) (mN M + 4) (mN M + 38) (mN M + 17) (fun i => mN M + 65 + 5 * i) (A0 tp)) (b1 : BK1 M1 (mN M) p0 lo0) (n2 : mN M2 = mN M1 + 13) (k2 : ∀ a, a < mN M1 → tg M2 a = tg M1 a ∧ (∀ k, vi M2 a k = vi M1 a k) ∧ (∀ k, vl M2 a k = vl M1 a k) ∧ ∀ k, vr M2 a k = vr M1 a k) (m2 : Mdl M2 (mN M1) 0 (A0 tp)) : WI (mk1 M2 21 1) (mN M) (A0 tp) := by
  rw [n1] at m2
  have ne : ∀ a, a < mN M2 → tg (mk1 M2 21 1) a = tg M2 a ∧ vi (mk1 M2 21 1) a = vi M2 a ∧ vr (mk1 M2 21 1) a = vr M2 a := fun a ha => ⟨by rw [tg_mk1, if_neg (by omega)], funext fun j => by rw [vi_mk1, if_neg (by omega)], funext fun j => by rw [vr_mk1, if_neg (by omega)]⟩
  refine ⟨⟨_, _, _, _, _, c1.smv (fun a ha => ?_) (fun a ha => ?_) (fun a ha => ?_)⟩, b1.bk (fun a h1 h2 => ?_), ⟨0, ⟨?_, ?_, ?_, ?_, ?_, fun i hi => absurd hi (Nat.not_lt_zero _), fun z => ?_, (fun z => by cases z), ?_, Nat.zero_le _, ?_, Nat.zero_le _, (fun i lo hi => by cases hi), (fun i lo hi => by cases hi)⟩, (fun z => by cases z)⟩, fun i hi => absurd hi (Nat.not_lt_zero _), ?_, ?_⟩
  · rw [(ne a (by omega)).1]; exact (k2 a (by omega)).1
  · rw [(ne a (by omega)).2.2]; exact funext fun j => (k2 a (by omega)).2.2.2 j
  · rw [(ne a (by omega)).2.1]; exact funext fun j => (k2 a (by omega)).2.1 j
  · rw [(ne a (by omega)).2.1]; exact funext fun j => (k2 a (by omega)).2.1 j
  · exact m2.T.mv (fun a ha => (ne a (by omega)).1) (fun j _ => by rw [(ne _ (by omega)).2.2])
  · rw [(ne _ (by omega)).2.1]; exact m2.tr
  · rw [(ne _ (by omega)).2.1]; exact m2.wh
  · rw [(ne _ (by omega)).2.1]; exact m2.ft
  · rw [(ne _ (by omega)).2.1]; exact m2.tl
  · rw [(ne _ (by omega)).2.2]; exact m2.N z
  · rw [(ne _ (by omega)).2.1]; exact m2.nac
  · rw [(ne _ (by omega)).2.1]; exact m2.nmk
  · rw [mN_mk1]; omega
  · rw [tg_mk1, if_pos (by omega)]
theorem q_law (hX : X.2.1 < 1000000) : hS (b_L_law X) [.ref X.1] M (fun r e m => r = .inr (some (.int (n32 1))) ∧ mN M ≤ mN m ∧ mN m ≤ mN M + 154 + 22 * (X.2.1 / 6) ∧ mU M ≤ mU m ∧ mU m ≤ mU M + 92401 + 204 * (X.2.1 / 6)) () := by
  obtain ⟨M1, e1, n1, u1, u1', -, c1, b1⟩ := new_class (M := M) (fun _ => 0)
  obtain ⟨M2, e2, n2, u2, k2, m2⟩ := new_model (M := M1) (fun _ => 0)
  have w := wi_new (fun _ => 0) n1 c1 b1 n2 k2 m2
  have L := q_lwL (X := X) ⟨_, w⟩ hX
  have o1 : okZ (n32 1) = true := by decide
  have nA1 : ¬ (n32 1 < 0 ∨ 65536 < (n32 1).toNatClampNeg) := by decide
  have cl : (n32 1).toNatClampNeg = 1 := by decide
  have nn1 : mN M1 = mN M + 140 := n1
  have nn2 : mN M2 = mN M + 153 := by omega
  rw [law_eq2]
  simp only [hR_d, hT_d, hI_t, hI_f, hVI_s, hVL_s, hVR_s, hVT_s, hVV_s, hO_s, hB_0, hB_1, hB_2, hB_r, hU_0, hU_1, hU_2, hU_r, hX_r, hL_0, hL_1, hL_2, hL_r, hC_s, h_k0, h_k1, h_k2, h_k3, h_k4, h_k5, h_k6, h_k7, h_k8, h_k9, h_k10, h_k11, h_k12, h_k14, h_k16, h_k18, h_k20, h_k23, h_k24, h_k25, h_k32, h_k44, h_k48, h_k50, h_k54, h_k57, h_k58, h_k59, h_k60, h_k63, h_k97, h_k100, h_k122, h_k177, h_k255, h_k400, h_k450, h_k625, h_k649, h_k708, h_k800, h_k900, h_k2500, h_k22500, h_k45000, h_kn1, h_kn2, h_kJ, h_kU, h_eI, h_eL, h_eR, h_eT, h_b1, h_eZ, h_not, h_b2, h_b0, h_b0L, h_gI, h_gL, h_gN, h_gR, h_aI, h_aL, h_aR, h_aLen, h_tern, h_and, h_or, h_vN, h_vI, h_vJ, h_vA, h_cFv, h_cFs, h_toI, h_toL, h_toV, h_nO, h_nA, g_skip, g_brk, g_cnt, g_retV, g_seq, g_if, g_setI, g_setR, g_setL, g_inc, g_putI, g_putZ, g_putL, g_putR, g_upI, g_AI, g_AL, g_AR, g_UA, g_exp, g_retI, g_retL, g_retZ, g_scope, g_unBrk, g_sup, h_fn, argE_n, argE_i, argE_r, argE_l, argE_a, sto_0, sto_s, sto_n0, sto_ns, isL_i, isL_r, isL_n, isL_a, isL_l, isL_0, rcv_r, rcv_a, List.getElem?_cons_zero, List.getElem?_cons_succ, List.getElem?_nil, List.set_cons_zero, List.set_cons_succ, List.take_succ_cons, List.take_zero, List.take_nil, List.length_cons, List.length_nil, List.nil_append, List.cons_append, Nat.reduceAdd, Nat.reduceSub, Nat.reduceLT, Nat.reduceEqDiff, Nat.reduceLeDiff, Nat.zero_add, Nat.lt_irrefl, Nat.succ_sub_one, and_true, true_and, and_false, false_and, not_false_eq_true, not_true_eq_false, Bool.false_eq_true, Bool.not_true, Bool.not_false, Bool.not_eq_true', Bool.true_eq_false, decide_true, decide_false, decide_eq_true_eq, decide_eq_false_iff_not, Option.some.injEq, and_self, Nat.add_one_sub_one, Nat.lt_add_one, Nat.zero_lt_succ, Value.int.injEq, Value.ref.injEq, Value.long.injEq, exists_eq_left', exists_eq_left, Sum.inl.injEq, Sum.inr.injEq, i2z_b2i, h_vS, h_kN, e1, e2, nA1, cl, nn1, nn2]
  refine ⟨fun z => nA1 (z.elim Or.inl (fun f => f.elim)), ?_⟩
  refine hS.mono L ?_
  rintro r e m ⟨rfl, a1, a2, a3, a4⟩
  rw [mN_mk1] at a1 a2
  rw [mU_mk1] at a3 a4
  simp only [hR_d, hT_d, hI_t, hI_f, hVI_s, hVL_s, hVR_s, hVT_s, hVV_s, hO_s, hB_0, hB_1, hB_2, hB_r, hU_0, hU_1, hU_2, hU_r, hX_r, hL_0, hL_1, hL_2, hL_r, hC_s, h_k0, h_k1, h_k2, h_k3, h_k4, h_k5, h_k6, h_k7, h_k8, h_k9, h_k10, h_k11, h_k12, h_k14, h_k16, h_k18, h_k20, h_k23, h_k24, h_k25, h_k32, h_k44, h_k48, h_k50, h_k54, h_k57, h_k58, h_k59, h_k60, h_k63, h_k97, h_k100, h_k122, h_k177, h_k255, h_k400, h_k450, h_k625, h_k649, h_k708, h_k800, h_k900, h_k2500, h_k22500, h_k45000, h_kn1, h_kn2, h_kJ, h_kU, h_eI, h_eL, h_eR, h_eT, h_b1, h_eZ, h_not, h_b2, h_b0, h_b0L, h_gI, h_gL, h_gN, h_gR, h_aI, h_aL, h_aR, h_aLen, h_tern, h_and, h_or, h_vN, h_vI, h_vJ, h_vA, h_cFv, h_cFs, h_toI, h_toL, h_toV, h_nO, h_nA, g_skip, g_brk, g_cnt, g_retV, g_seq, g_if, g_setI, g_setR, g_setL, g_inc, g_putI, g_putZ, g_putL, g_putR, g_upI, g_AI, g_AL, g_AR, g_UA, g_exp, g_retI, g_retL, g_retZ, g_scope, g_unBrk, g_sup, h_fn, argE_n, argE_i, argE_r, argE_l, argE_a, sto_0, sto_s, sto_n0, sto_ns, isL_i, isL_r, isL_n, isL_a, isL_l, isL_0, rcv_r, rcv_a, List.getElem?_cons_zero, List.getElem?_cons_succ, List.getElem?_nil, List.set_cons_zero, List.set_cons_succ, List.take_succ_cons, List.take_zero, List.take_nil, List.length_cons, List.length_nil, List.nil_append, List.cons_append, Nat.reduceAdd, Nat.reduceSub, Nat.reduceLT, Nat.reduceEqDiff, Nat.reduceLeDiff, Nat.zero_add, Nat.lt_irrefl, Nat.succ_sub_one, and_true, true_and, and_false, false_and, not_false_eq_true, not_true_eq_false, Bool.false_eq_true, Bool.not_true, Bool.not_false, Bool.not_eq_true', Bool.true_eq_false, decide_true, decide_false, decide_eq_true_eq, decide_eq_false_iff_not, Option.some.injEq, and_self, Nat.add_one_sub_one, Nat.lt_add_one, Nat.zero_lt_succ, Value.int.injEq, Value.ref.injEq, Value.long.injEq, exists_eq_left', exists_eq_left, Sum.inl.injEq, Sum.inr.injEq, i2z_b2i, h_vS, h_kN, o1]
  exact ⟨by omega, by omega, by omega, by omega⟩
end
