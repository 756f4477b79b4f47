/-! LED, BOTH SIDES -/
section
variable {M : qM} {B X C : Nat} {A : Ab}
theorem r_thrown (T : MdlT M X) : f_X10_thrown [.ref X] M = some (some (.int (vi M X 0)), M) := by
  apply h_eq
  delta f_X10_thrown b_X10_thrown
  simp only [hR_d, hT_d, hI_t, hI_f, hVI_s, hVL_s, hVR_s, hVT_s, hVV_s, hO_s, hB_0, hB_1, hB_2, hB_r, hU_0, hU_1, hU_2, hU_r, hX_r, hL_0, hL_1, hL_2, hL_r, hC_s, h_k0, h_k1, h_k2, h_k3, h_k4, h_k5, h_k6, h_k7, h_k8, h_k9, h_k10, h_k11, h_k12, h_k14, h_k16, h_k18, h_k20, h_k23, h_k24, h_k25, h_k32, h_k44, h_k48, h_k50, h_k54, h_k57, h_k58, h_k59, h_k60, h_k63, h_k97, h_k100, h_k122, h_k177, h_k255, h_k400, h_k450, h_k625, h_k649, h_k708, h_k800, h_k900, h_k2500, h_k22500, h_k45000, h_kn1, h_kn2, h_kJ, h_kU, h_eI, h_eL, h_eR, h_eT, h_b1, h_eZ, h_not, h_b2, h_b0, h_b0L, h_gI, h_gL, h_gN, h_gR, h_aI, h_aL, h_aR, h_aLen, h_tern, h_and, h_or, h_vN, h_vI, h_vJ, h_vA, h_cFv, h_cFs, h_toI, h_toL, h_toV, h_nO, h_nA, g_skip, g_brk, g_cnt, g_retV, g_seq, g_if, g_setI, g_setR, g_setL, g_inc, g_putI, g_putZ, g_putL, g_putR, g_upI, g_AI, g_AL, g_AR, g_UA, g_exp, g_retI, g_retL, g_retZ, g_scope, g_unBrk, g_sup, h_fn, argE_n, argE_i, argE_r, argE_l, argE_a, sto_0, sto_s, sto_n0, sto_ns, isL_i, isL_r, isL_n, isL_a, isL_l, isL_0, rcv_r, rcv_a, List.getElem?_cons_zero, List.getElem?_cons_succ, List.getElem?_nil, List.set_cons_zero, List.set_cons_succ, List.take_succ_cons, List.take_zero, List.take_nil, List.length_cons, List.length_nil, List.nil_append, List.cons_append, Nat.reduceAdd, Nat.reduceSub, Nat.reduceLT, Nat.reduceEqDiff, Nat.reduceLeDiff, Nat.zero_add, Nat.lt_irrefl, Nat.succ_sub_one, and_true, true_and, and_false, false_and, not_false_eq_true, not_true_eq_false, Bool.false_eq_true, Bool.not_true, Bool.not_false, Bool.not_eq_true', Bool.true_eq_false, decide_true, decide_false, decide_eq_true_eq, decide_eq_false_iff_not, Option.some.injEq, and_self, Nat.add_one_sub_one, Nat.lt_add_one, Nat.zero_lt_succ, Value.int.injEq, Value.ref.injEq, Value.long.injEq, exists_eq_left', exists_eq_left, Sum.inl.injEq, Sum.inr.injEq, i2z_b2i, h_vS, h_kN, T.t]
theorem f_led_n {i : Int32} {o : Nat} (t : tg M B = (9, 15)) (h : hS b_X8_led [.ref B, .int i] M (fun r e m => LdQ M none r m) ()) : f_L_led [.ref B, .int i, .ref o] M = some (some (.int (n32 1)), thr M) := by
  obtain ⟨r, e, m, h1, rfl, rfl⟩ := h
  unfold f_L_led
  simp only [t, h1, if_true]
  rfl
theorem f_led_s {i : Int32} {q : Nat} (t : tg M B = (9, 15)) (to : tg M (B + 153) = (21, 1)) (h : hS b_X8_led [.ref B, .int i] M (fun r e m => LdQ M (some q) r m) ()) : f_L_led [.ref B, .int i, .ref (B + 153)] M = some (some (.int (n32 0)), pL M (B + 153) 0 (n32 q).toInt64) := by
  obtain ⟨r, e, m, h1, rfl, rfl⟩ := h
  have e1 : f_X8_led [.ref B, .int i] m = some (some (.int (n32 q)), m) := by
    unfold f_X8_led fnOf
    have a : argE [.ref B, .int i] = [.ref B, .int i] := by simp only [argE_n, argE_r, argE_i]
    rw [a, h1]
    rfl
  have e2 : fnOf 3 b_L_ledR [.ref B, .int i, .ref (B + 153)] m = some (some (.int (n32 0)), pL m (B + 153) 0 (n32 q).toInt64) := by
    apply h_eq
    unfold b_L_ledR
    simp (disch := omega) only [hR_d, hT_d, hI_t, hI_f, hVI_s, hVL_s, hVR_s, hVT_s, hVV_s, hO_s, hB_0, hB_1, hB_2, hB_r, hU_0, hU_1, hU_2, hU_r, hX_r, hL_0, hL_1, hL_2, hL_r, hC_s, h_k0, h_k1, h_k2, h_k3, h_k4, h_k5, h_k6, h_k7, h_k8, h_k9, h_k10, h_k11, h_k12, h_k14, h_k16, h_k18, h_k20, h_k23, h_k24, h_k25, h_k32, h_k44, h_k48, h_k50, h_k54, h_k57, h_k58, h_k59, h_k60, h_k63, h_k97, h_k100, h_k122, h_k177, h_k255, h_k400, h_k450, h_k625, h_k649, h_k708, h_k800, h_k900, h_k2500, h_k22500, h_k45000, h_kn1, h_kn2, h_kJ, h_kU, h_eI, h_eL, h_eR, h_eT, h_b1, h_eZ, h_not, h_b2, h_b0, h_b0L, h_gI, h_gL, h_gN, h_gR, h_aI, h_aL, h_aR, h_aLen, h_tern, h_and, h_or, h_vN, h_vI, h_vJ, h_vA, h_cFv, h_cFs, h_toI, h_toL, h_toV, h_nO, h_nA, g_skip, g_brk, g_cnt, g_retV, g_seq, g_if, g_setI, g_setR, g_setL, g_inc, g_putI, g_putZ, g_putL, g_putR, g_upI, g_AI, g_AL, g_AR, g_UA, g_exp, g_retI, g_retL, g_retZ, g_scope, g_unBrk, g_sup, h_fn, argE_n, argE_i, argE_r, argE_l, argE_a, sto_0, sto_s, sto_n0, sto_ns, isL_i, isL_r, isL_n, isL_a, isL_l, isL_0, rcv_r, rcv_a, List.getElem?_cons_zero, List.getElem?_cons_succ, List.getElem?_nil, List.set_cons_zero, List.set_cons_succ, List.take_succ_cons, List.take_zero, List.take_nil, List.length_cons, List.length_nil, List.nil_append, List.cons_append, Nat.reduceAdd, Nat.reduceSub, Nat.reduceLT, Nat.reduceEqDiff, Nat.reduceLeDiff, Nat.zero_add, Nat.lt_irrefl, Nat.succ_sub_one, and_true, true_and, and_false, false_and, not_false_eq_true, not_true_eq_false, Bool.false_eq_true, Bool.not_true, Bool.not_false, Bool.not_eq_true', Bool.true_eq_false, decide_true, decide_false, decide_eq_true_eq, decide_eq_false_iff_not, Option.some.injEq, and_self, Nat.add_one_sub_one, Nat.lt_add_one, Nat.zero_lt_succ, Value.int.injEq, Value.ref.injEq, Value.long.injEq, exists_eq_left', exists_eq_left, Sum.inl.injEq, Sum.inr.injEq, i2z_b2i, h_vS, h_kN, n_iEq, n_iNe, n_iLt, n_iLe, n_iGt, n_iGe, n_zEq, n_zLt, n_zLe, n_zGt, n_zGe, n_inb, n32_clamp, t, to, h_of e1]
  unfold f_L_led
  simp only [t, h1, if_true]
  exact e2
theorem sp_led (h : WI M B A) (i : Int32) : tg M B = (9, 15) ∧ ∃ M1 M2 c v, c < 2 ∧ f_L_led [.ref B, .int i, .ref (B + 153)] M = some (some (.int (n32 c)), M1) ∧ tg M1 (B + 140) = (11, 33) ∧ f_X10_led [.ref (B + 140), .int i] M1 = some (some (.int v), M2) ∧ tg M2 (B + 140) = (11, 33) ∧ f_X10_thrown [.ref (B + 140)] M2 = some (some (.int (n32 c)), M2) ∧ tg M2 (B + 153) = (21, 1) ∧ (c = 0 → vl M2 (B + 153) 0 = v.toInt64) ∧ WI M2 B A ∧ Bd M M2 := by
  obtain ⟨⟨P, P2, L, L2, ac, hc⟩, hb, ⟨C, hm, hC⟩, hby, hn, ht⟩ := h
  refine ⟨hc.T.t, ?_⟩
  have ql := q_led hc i
  have rl := fun (M1 : qM) (m1 : Mdl M1 (B + 140) C A) => r_led m1 i
  cases o : ledO (aTd A) (aPn A) (aLm A) i with
  | none =>
    rw [o] at ql
    have m1 : Mdl (thr M) (B + 140) C A := hm
    have r1 := rl (thr M) m1
    rw [o] at r1
    have m2 := (m1.th (n32 0)).th (n32 1)
    have c2 : Cls (pI (pI (thr M) (B + 140) 0 (n32 0)) (B + 140) 0 (n32 1)) B P P2 L L2 ac A := Cls.mr (M := thr M) hc (frX (frX (Fr.refl _ _)))
    refine ⟨thr M, _, 1, n32 0, by decide, f_led_n hc.T.t ql, hm.T.t, r1, m2.T.t, ?_, ht, (fun z => by cases z), ⟨⟨P, P2, L, L2, ac, c2⟩, ?_, ⟨C, m2, fun z => ?_⟩, hby, ?_, ht⟩, ?_⟩
    · rw [r_thrown m2.T, vi_self]
    · exact BK1.bk (M := thr M) hb (fun a h1 h2 => funext fun j => by rw [vi_ne (by omega), vi_ne (by omega)])
    · have := hC z
      show C + 21 < mN M + 1
      omega
    · show B + 154 ≤ mN M + 1; omega
    · exact ⟨Nat.le_succ _, Nat.add_le_add_left (by decide) _, Nat.le_add_right _ _, Nat.add_le_add_left (by decide) _⟩
  | some q =>
    rw [o] at ql
    have m1 : Mdl (pL M (B + 153) 0 (n32 q).toInt64) (B + 140) C A := hm
    have r1 := rl _ m1
    rw [o] at r1
    have m2 := m1.th (n32 0)
    have c2 : Cls (pI (pL M (B + 153) 0 (n32 q).toInt64) (B + 140) 0 (n32 0)) B P P2 L L2 ac A := Cls.mr (M := pL M (B + 153) 0 (n32 q).toInt64) hc (frX (Fr.refl _ _))
    refine ⟨_, _, 0, n32 q, by decide, f_led_s hc.T.t ht ql, hm.T.t, r1, m2.T.t, ?_, ht, (fun _ => ?_), ⟨⟨P, P2, L, L2, ac, c2⟩, ?_, ⟨C, m2, hC⟩, hby, hn, ht⟩, ?_⟩
    · rw [r_thrown m2.T, vi_self]
    · show vl (pL M (B + 153) 0 (n32 q).toInt64) (B + 153) 0 = _
      rw [vl_self]
    · exact BK1.bk (M := pL M (B + 153) 0 (n32 q).toInt64) hb (fun a h1 h2 => funext fun j => by rw [vi_ne (by omega)])
    · exact ⟨Nat.le_refl _, Nat.le_add_right _ _, Nat.le_refl _, Nat.le_add_right _ _⟩
end
