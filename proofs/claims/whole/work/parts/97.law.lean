/-! THE LAW -/
section
variable {X : Nat × Nat × (Nat → Int32)} {M : qM} {B k : Nat} {A : Ab}
noncomputable def lcAll (X : Nat × Nat × (Nat → Int32)) : List Sv := [lc0 X, lc1 X, lc2 X, lc3 X, lc4 X, lc5 X, lc6 X, lc7 X, lc8 X, lc9 X, lc10 X, lc11 X, lc12 X, lc13 X, lc14 X, lc15 X, lc16 X, lc17 X, lc18 X, lc19 X, lc20 X, lc21 X, lc22 X, lc23 X, lc24 X, lc25 X, lc26 X, lc27 X, lc28 X, lc29 X, lc30 X, lc31 X, lc32 X, lc33 X, lc34 X, lc35 X, lc36 X, lc37 X, lc38 X]
theorem lq_all (h : WI M B A) (hk : k + 5 < X.2.1) (hX : X.2.1 < 2147483648) : ∀ s, s ∈ lcAll X → hS s [.ref X.1, .ref B, .ref (B + 140), .ref (B + 153), .int (n32 k)] M (LcQ [.ref X.1, .ref B, .ref (B + 140), .ref (B + 153), .int (n32 k)] M B) () := by
  intro s hs
  unfold lcAll at hs
  simp only [List.mem_cons, List.not_mem_nil, or_false] at hs
  rcases hs with rfl | rfl | rfl | rfl | rfl | rfl | rfl | rfl | rfl | rfl | rfl | rfl | rfl | rfl | rfl | rfl | rfl | rfl | rfl | rfl | rfl | rfl | rfl | rfl | rfl | rfl | rfl | rfl | rfl | rfl | rfl | rfl | rfl | rfl | rfl | rfl | rfl | rfl | rfl
  · exact lq0 h hk hX
  · exact lq1 h hk hX
  · exact lq2 h hk hX
  · exact lq3 h hk hX
  · exact lq4 h hk hX
  · exact lq5 h hk hX
  · exact lq6 h hk hX
  · exact lq7 h hk hX
  · exact lq8 h hk hX
  · exact lq9 h hk hX
  · exact lq10 h hk hX
  · exact lq11 h hk hX
  · exact lq12 h hk hX
  · exact lq13 h hk hX
  · exact lq14 h hk hX
  · exact lq15 h hk hX
  · exact lq16 h hk hX
  · exact lq17 h hk hX
  · exact lq18 h hk hX
  · exact lq19 h hk hX
  · exact lq20 h hk hX
  · exact lq21 h hk hX
  · exact lq22 h hk hX
  · exact lq23 h hk hX
  · exact lq24 h hk hX
  · exact lq25 h hk hX
  · exact lq26 h hk hX
  · exact lq27 h hk hX
  · exact lq28 h hk hX
  · exact lq29 h hk hX
  · exact lq30 h hk hX
  · exact lq31 h hk hX
  · exact lq32 h hk hX
  · exact lq33 h hk hX
  · exact lq34 h hk hX
  · exact lq35 h hk hX
  · exact lq36 h hk hX
  · exact lq37 h hk hX
  · exact lq38 h hk hX
theorem pick {P : Sv → Prop} {bs : List Sv} {d : Sv} (h : ∀ s, s ∈ bs → P s) (hd : P d) (c : Prop) [Decidable c] (t : Nat) : P (if c then d else (bs[t]?).getD d) := by
  split
  · exact hd
  · cases e : bs[t]? with
    | none => exact hd
    | some s => exact h s (List.mem_of_getElem? e)
theorem lq_sw (h : WI M B A) (hk : k + 5 < X.2.1) (hX : X.2.1 < 2147483648) : hS (sSw (b2 (fun x y => x &&& y) (eX X (eI 4)) (eK (63 : Int32))) 0 (lcAll X) sBrk) [.ref X.1, .ref B, .ref (B + 140), .ref (B + 153), .int (n32 k)] M (LcQ [.ref X.1, .ref B, .ref (B + 140), .ref (B + 153), .int (n32 k)] M B) () := by
  have z : hE (eI 4) [.ref X.1, .ref B, .ref (B + 140), .ref (B + 153), .int (n32 k)] M (fun x m => x = n32 k ∧ m = M) () := by simp only [hR_d, hT_d, hI_t, hI_f, hVI_s, hVL_s, hVR_s, hVT_s, hVV_s, hO_s, hB_0, hB_1, hB_2, hB_r, hU_0, hU_1, hU_2, hU_r, hX_r, hL_0, hL_1, hL_2, hL_r, hC_s, h_k0, h_k1, h_k2, h_k3, h_k4, h_k5, h_k6, h_k7, h_k8, h_k9, h_k10, h_k11, h_k12, h_k14, h_k16, h_k18, h_k20, h_k23, h_k24, h_k25, h_k32, h_k44, h_k48, h_k50, h_k54, h_k57, h_k58, h_k59, h_k60, h_k63, h_k97, h_k100, h_k122, h_k177, h_k255, h_k400, h_k450, h_k625, h_k649, h_k708, h_k800, h_k900, h_k2500, h_k22500, h_k45000, h_kn1, h_kn2, h_kJ, h_kU, h_eI, h_eL, h_eR, h_eT, h_b1, h_eZ, h_not, h_b2, h_b0, h_b0L, h_gI, h_gL, h_gN, h_gR, h_aI, h_aL, h_aR, h_aLen, h_tern, h_and, h_or, h_vN, h_vI, h_vJ, h_vA, h_cFv, h_cFs, h_toI, h_toL, h_toV, h_nO, h_nA, g_skip, g_brk, g_cnt, g_retV, g_seq, g_if, g_setI, g_setR, g_setL, g_inc, g_putI, g_putZ, g_putL, g_putR, g_upI, g_AI, g_AL, g_AR, g_UA, g_exp, g_retI, g_retL, g_retZ, g_scope, g_unBrk, g_sup, h_fn, argE_n, argE_i, argE_r, argE_l, argE_a, sto_0, sto_s, sto_n0, sto_ns, isL_i, isL_r, isL_n, isL_a, isL_l, isL_0, rcv_r, rcv_a, List.getElem?_cons_zero, List.getElem?_cons_succ, List.getElem?_nil, List.set_cons_zero, List.set_cons_succ, List.take_succ_cons, List.take_zero, List.take_nil, List.length_cons, List.length_nil, List.nil_append, List.cons_append, Nat.reduceAdd, Nat.reduceSub, Nat.reduceLT, Nat.reduceEqDiff, Nat.reduceLeDiff, Nat.zero_add, Nat.lt_irrefl, Nat.succ_sub_one, and_true, true_and, and_false, false_and, not_false_eq_true, not_true_eq_false, Bool.false_eq_true, Bool.not_true, Bool.not_false, Bool.not_eq_true', Bool.true_eq_false, decide_true, decide_false, decide_eq_true_eq, decide_eq_false_iff_not, Option.some.injEq, and_self, Nat.add_one_sub_one, Nat.lt_add_one, Nat.zero_lt_succ, Value.int.injEq, Value.ref.injEq, Value.long.injEq, exists_eq_left', exists_eq_left, Sum.inl.injEq, Sum.inr.injEq, i2z_b2i, h_vS, h_kN]
  obtain ⟨x, m, h1, rfl, rfl⟩ := z
  rw [g_sw]
  simp only [h_b2]
  rw [h_eX rfl h1 (by omega) hX]
  simp only [hR_d, hT_d, hI_t, hI_f, hVI_s, hVL_s, hVR_s, hVT_s, hVV_s, hO_s, hB_0, hB_1, hB_2, hB_r, hU_0, hU_1, hU_2, hU_r, hX_r, hL_0, hL_1, hL_2, hL_r, hC_s, h_k0, h_k1, h_k2, h_k3, h_k4, h_k5, h_k6, h_k7, h_k8, h_k9, h_k10, h_k11, h_k12, h_k14, h_k16, h_k18, h_k20, h_k23, h_k24, h_k25, h_k32, h_k44, h_k48, h_k50, h_k54, h_k57, h_k58, h_k59, h_k60, h_k63, h_k97, h_k100, h_k122, h_k177, h_k255, h_k400, h_k450, h_k625, h_k649, h_k708, h_k800, h_k900, h_k2500, h_k22500, h_k45000, h_kn1, h_kn2, h_kJ, h_kU, h_eI, h_eL, h_eR, h_eT, h_b1, h_eZ, h_not, h_b2, h_b0, h_b0L, h_gI, h_gL, h_gN, h_gR, h_aI, h_aL, h_aR, h_aLen, h_tern, h_and, h_or, h_vN, h_vI, h_vJ, h_vA, h_cFv, h_cFs, h_toI, h_toL, h_toV, h_nO, h_nA, g_skip, g_brk, g_cnt, g_retV, g_seq, g_if, g_setI, g_setR, g_setL, g_inc, g_putI, g_putZ, g_putL, g_putR, g_upI, g_AI, g_AL, g_AR, g_UA, g_exp, g_retI, g_retL, g_retZ, g_scope, g_unBrk, g_sup, h_fn, argE_n, argE_i, argE_r, argE_l, argE_a, sto_0, sto_s, sto_n0, sto_ns, isL_i, isL_r, isL_n, isL_a, isL_l, isL_0, rcv_r, rcv_a, List.getElem?_cons_zero, List.getElem?_cons_succ, List.getElem?_nil, List.set_cons_zero, List.set_cons_succ, List.take_succ_cons, List.take_zero, List.take_nil, List.length_cons, List.length_nil, List.nil_append, List.cons_append, Nat.reduceAdd, Nat.reduceSub, Nat.reduceLT, Nat.reduceEqDiff, Nat.reduceLeDiff, Nat.zero_add, Nat.lt_irrefl, Nat.succ_sub_one, and_true, true_and, and_false, false_and, not_false_eq_true, not_true_eq_false, Bool.false_eq_true, Bool.not_true, Bool.not_false, Bool.not_eq_true', Bool.true_eq_false, decide_true, decide_false, decide_eq_true_eq, decide_eq_false_iff_not, Option.some.injEq, and_self, Nat.add_one_sub_one, Nat.lt_add_one, Nat.zero_lt_succ, Value.int.injEq, Value.ref.injEq, Value.long.injEq, exists_eq_left', exists_eq_left, Sum.inl.injEq, Sum.inr.injEq, i2z_b2i, h_vS, h_kN, h_eK]
  refine pick (P := fun s => hS s [.ref X.1, .ref B, .ref (B + 140), .ref (B + 153), .int (n32 k)] m (LcQ [.ref X.1, .ref B, .ref (B + 140), .ref (B + 153), .int (n32 k)] m B) ()) (lq_all h hk hX) ?_ _ _
  simp only [hR_d, hT_d, hI_t, hI_f, hVI_s, hVL_s, hVR_s, hVT_s, hVV_s, hO_s, hB_0, hB_1, hB_2, hB_r, hU_0, hU_1, hU_2, hU_r, hX_r, hL_0, hL_1, hL_2, hL_r, hC_s, h_k0, h_k1, h_k2, h_k3, h_k4, h_k5, h_k6, h_k7, h_k8, h_k9, h_k10, h_k11, h_k12, h_k14, h_k16, h_k18, h_k20, h_k23, h_k24, h_k25, h_k32, h_k44, h_k48, h_k50, h_k54, h_k57, h_k58, h_k59, h_k60, h_k63, h_k97, h_k100, h_k122, h_k177, h_k255, h_k400, h_k450, h_k625, h_k649, h_k708, h_k800, h_k900, h_k2500, h_k22500, h_k45000, h_kn1, h_kn2, h_kJ, h_kU, h_eI, h_eL, h_eR, h_eT, h_b1, h_eZ, h_not, h_b2, h_b0, h_b0L, h_gI, h_gL, h_gN, h_gR, h_aI, h_aL, h_aR, h_aLen, h_tern, h_and, h_or, h_vN, h_vI, h_vJ, h_vA, h_cFv, h_cFs, h_toI, h_toL, h_toV, h_nO, h_nA, g_skip, g_brk, g_cnt, g_retV, g_seq, g_if, g_setI, g_setR, g_setL, g_inc, g_putI, g_putZ, g_putL, g_putR, g_upI, g_AI, g_AL, g_AR, g_UA, g_exp, g_retI, g_retL, g_retZ, g_scope, g_unBrk, g_sup, h_fn, argE_n, argE_i, argE_r, argE_l, argE_a, sto_0, sto_s, sto_n0, sto_ns, isL_i, isL_r, isL_n, isL_a, isL_l, isL_0, rcv_r, rcv_a, List.getElem?_cons_zero, List.getElem?_cons_succ, List.getElem?_nil, List.set_cons_zero, List.set_cons_succ, List.take_succ_cons, List.take_zero, List.take_nil, List.length_cons, List.length_nil, List.nil_append, List.cons_append, Nat.reduceAdd, Nat.reduceSub, Nat.reduceLT, Nat.reduceEqDiff, Nat.reduceLeDiff, Nat.zero_add, Nat.lt_irrefl, Nat.succ_sub_one, and_true, true_and, and_false, false_and, not_false_eq_true, not_true_eq_false, Bool.false_eq_true, Bool.not_true, Bool.not_false, Bool.not_eq_true', Bool.true_eq_false, decide_true, decide_false, decide_eq_true_eq, decide_eq_false_iff_not, Option.some.injEq, and_self, Nat.add_one_sub_one, Nat.lt_add_one, Nat.zero_lt_succ, Value.int.injEq, Value.ref.injEq, Value.long.injEq, exists_eq_left', exists_eq_left, Sum.inl.injEq, Sum.inr.injEq, i2z_b2i, h_vS, h_kN]
  exact ⟨rfl, rfl, ⟨A, h⟩, Nat.le_refl _, Nat.le_add_right _ _, Nat.le_refl _, Nat.le_add_right _ _⟩
end
