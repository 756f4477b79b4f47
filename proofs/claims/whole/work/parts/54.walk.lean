/-! WALKS: chains of rows, and how the class spreads them -/
def tkc (p : Pl) (r c : Nat) : Nat := if pCol p r = c then pTk p r else 0
theorem tkc_le {p : Pl} (O : PlOK p) {r : Nat} (hr : r < pK p) (c : Nat) : tkc p r c ≤ 3 := by
  unfold tkc
  have := O.tk r hr
  split <;> omega
def StV (M : qM) (B : Nat) (K : Nat) (R : Nat → Nat → Bool) : Prop := ∀ r, r < K → ∀ i, bt (vi M (B + 47) r) i = R r i
def WV (M : qM) (B s0 s1 : Nat) (ce : Nat → Nat → Nat → Nat → Prop) (la : Nat → Nat → Prop) (lg : Nat) : Prop := (vi M (B + 48) 0 = n32 s0) ∧ (vi M (B + 48) 1 = n32 s1) ∧ (s0 ≤ 9) ∧ (s1 ≤ 9) ∧ (∀ n a b, n ≤ 24 → a ≤ 9 → b ≤ 9 → ∀ i, bt (vi M (B + 49) (n * 100 + a * 10 + b)) i = true ↔ ce n a b i) ∧ (∀ n, n ≤ 24 → ∀ i, bt (vi M (B + 50) n) i = true ↔ la n i) ∧ (vi M (B + 46) 4 = n32 lg)
theorem WV.v0 {M : qM} {B s0 s1 : Nat} {ce : Nat → Nat → Nat → Nat → Prop} {la : Nat → Nat → Prop} {lg : Nat} (h : WV M B s0 s1 ce la lg) : vi M (B + 48) 0 = n32 s0 := h.1
theorem WV.v1 {M : qM} {B s0 s1 : Nat} {ce : Nat → Nat → Nat → Nat → Prop} {la : Nat → Nat → Prop} {lg : Nat} (h : WV M B s0 s1 ce la lg) : vi M (B + 48) 1 = n32 s1 := h.2.1
theorem WV.b0 {M : qM} {B s0 s1 : Nat} {ce : Nat → Nat → Nat → Nat → Prop} {la : Nat → Nat → Prop} {lg : Nat} (h : WV M B s0 s1 ce la lg) : s0 ≤ 9 := h.2.2.1
theorem WV.b1 {M : qM} {B s0 s1 : Nat} {ce : Nat → Nat → Nat → Nat → Prop} {la : Nat → Nat → Prop} {lg : Nat} (h : WV M B s0 s1 ce la lg) : s1 ≤ 9 := h.2.2.2.1
theorem WV.ce {M : qM} {B s0 s1 : Nat} {ce : Nat → Nat → Nat → Nat → Prop} {la : Nat → Nat → Prop} {lg : Nat} (h : WV M B s0 s1 ce la lg) : ∀ n a b, n ≤ 24 → a ≤ 9 → b ≤ 9 → ∀ i, bt (vi M (B + 49) (n * 100 + a * 10 + b)) i = true ↔ ce n a b i := h.2.2.2.2.1
theorem WV.la {M : qM} {B s0 s1 : Nat} {ce : Nat → Nat → Nat → Nat → Prop} {la : Nat → Nat → Prop} {lg : Nat} (h : WV M B s0 s1 ce la lg) : ∀ n, n ≤ 24 → ∀ i, bt (vi M (B + 50) n) i = true ↔ la n i := h.2.2.2.2.2.1
theorem WV.lg {M : qM} {B s0 s1 : Nat} {ce : Nat → Nat → Nat → Nat → Prop} {la : Nat → Nat → Prop} {lg : Nat} (h : WV M B s0 s1 ce la lg) : vi M (B + 46) 4 = n32 lg := h.2.2.2.2.2.2
section
variable {M : qM} {B P : Nat} {p : Pl}
theorem q_headInward (h : PlanAt M P p) (S : ScrT M B) (hd : P + 12 < B + 45 ∨ B + 64 < P) {s : Nat} (hs : s < 2) : ∃ M', f_X7_headInward [.ref (B + 46), .ref P, .int (n32 s)] M = some (none, M') ∧ Fr (fun a => a = B + 47) M M' ∧ StV M' B (pK p) (fol p s) := by
  have hk := h.O.kinds
  have key : wF f_X7_headInward [.ref (B + 46), .ref P, .int (n32 s)] M (fun v M' => v = none ∧ Fr (fun a => a = B + 47) M M' ∧ StV M' B (pK p) (fol p s)) := by
    unfold f_X7_headInward b_X7_headInward
    simp only [w_eK, w_eI, w_eL, w_eR, w_eT, w_b1, w_b2, w_b0, w_b0L, w_gI, w_gL, w_gN, w_gR, w_aI, w_aL, w_aR, w_aLen, w_tern, w_and, w_or, w_vN, vI, vJ, vA, vS, w_cFv, w_cFs, w_toI, w_toL, w_toV, w_nO, w_nA, eZ, cNot, s_skip, s_brk, s_cnt, s_retV, s_seq, s_if, s_set1, s_setL, s_inc, s_putI, s_putZ, s_putL, s_putR, s_upI, s_AI, s_AL, s_AR, s_UA, s_exp, s_ret, s_retZ, s_scope, s_unBrk, s_sw, s_sup, sSetI, sSetR, sRetI, sRetL, f_of, argE_n, argE_i, argE_r, argE_l, argE_a, sto_0, sto_s, sto_n0, sto_ns, isL_i, isL_r, isL_n, isL_a, isL_l, isL_0, rcv_r, rcv_a, List.getElem?_cons_zero, List.getElem?_cons_succ, List.getElem?_nil, List.set_cons_zero, List.set_cons_succ, List.take_succ_cons, List.take_zero, List.take_nil, List.length_cons, List.length_nil, List.nil_append, List.cons_append, Nat.reduceAdd, Nat.reduceSub, Nat.reduceLT, Nat.reduceEqDiff, Nat.reduceLeDiff, Nat.zero_add, Nat.lt_irrefl, Nat.succ_sub_one, and_true, true_and, and_false, false_and, not_false_eq_true, not_true_eq_false, Bool.false_eq_true, if_true, if_false, reduceIte, decide_true, decide_false, decide_eq_true_eq, Option.some.injEq, and_self, Nat.add_one_sub_one, Nat.lt_add_one, Nat.zero_lt_succ, Value.int.injEq, Value.ref.injEq, Value.long.injEq, exists_eq_left', exists_eq_left, Sum.inl.injEq, Sum.inr.injEq, l_0, l_1, l_2, l_3, l_4, l_5, l_6, l_7, l_8, l_9, l_10, l_12, l_20, l_23, l_24, l_25, l_32, l_48, l_60, l_100, l_200, l_255, l_900, n32_add, n32_mul, n32_inc, neg1, neg2, l_11, l_50, l_54, l_58, l_59, l_649]
    refine s_up (fun j e m => e = [.ref (B + 46), .ref P, .int (n32 s), .int (n32 j)] ∧ Fr (fun a => a = B + 47) M m ∧ ∀ r, r < j → ∀ i, bt (vi m (B + 47) r) i = fol p s r i) (pK p) ⟨rfl, Fr.refl _ _, fun r hr => by omega⟩ ?_ ?_
    · rintro j e m hj ⟨rfl, f, hI⟩
      have g := h.fr f (fun a h1 h2 z => by omega)
      have S' := S.fr f
      obtain ⟨x, hx, hb⟩ := q_behind g hs hj
      simp (disch := omega) only [w_eK, w_eI, w_eL, w_eR, w_eT, w_b1, w_b2, w_b0, w_b0L, w_gI, w_gL, w_gN, w_gR, w_aI, w_aL, w_aR, w_aLen, w_tern, w_and, w_or, w_vN, vI, vJ, vA, vS, w_cFv, w_cFs, w_toI, w_toL, w_toV, w_nO, w_nA, eZ, cNot, s_skip, s_brk, s_cnt, s_retV, s_seq, s_if, s_set1, s_setL, s_inc, s_putI, s_putZ, s_putL, s_putR, s_upI, s_AI, s_AL, s_AR, s_UA, s_exp, s_ret, s_retZ, s_scope, s_unBrk, s_sw, s_sup, sSetI, sSetR, sRetI, sRetL, f_of, argE_n, argE_i, argE_r, argE_l, argE_a, sto_0, sto_s, sto_n0, sto_ns, isL_i, isL_r, isL_n, isL_a, isL_l, isL_0, rcv_r, rcv_a, List.getElem?_cons_zero, List.getElem?_cons_succ, List.getElem?_nil, List.set_cons_zero, List.set_cons_succ, List.take_succ_cons, List.take_zero, List.take_nil, List.length_cons, List.length_nil, List.nil_append, List.cons_append, Nat.reduceAdd, Nat.reduceSub, Nat.reduceLT, Nat.reduceEqDiff, Nat.reduceLeDiff, Nat.zero_add, Nat.lt_irrefl, Nat.succ_sub_one, and_true, true_and, and_false, false_and, not_false_eq_true, not_true_eq_false, Bool.false_eq_true, if_true, if_false, reduceIte, decide_true, decide_false, decide_eq_true_eq, Option.some.injEq, and_self, Nat.add_one_sub_one, Nat.lt_add_one, Nat.zero_lt_succ, Value.int.injEq, Value.ref.injEq, Value.long.injEq, exists_eq_left', exists_eq_left, Sum.inl.injEq, Sum.inr.injEq, n_iEq, n_iNe, n_iLt, n_iLe, n_iGt, n_iGe, n_zEq, n_zLt, n_zLe, n_zGt, n_zGe, n_inb, n32_clamp, g.T.t, g.V.kinds, hj, S'.t46, S'.w0, S'.t47, wF_of hx, nar, n32_inc]
      refine ⟨by omega, f.pI _ _ rfl, fun r hr i => ?_⟩
      rw [vi_pI]
      by_cases er : r = j
      · subst er; rw [if_pos ⟨rfl, rfl⟩]; exact hb i
      · rw [if_neg (fun z => er z.2)]; exact hI r (by omega) i
    · rintro e m ⟨rfl, f, hI⟩
      have g := h.fr f (fun a h1 h2 z => by omega)
      simp (disch := omega) only [w_eK, w_eI, w_eL, w_eR, w_eT, w_b1, w_b2, w_b0, w_b0L, w_gI, w_gL, w_gN, w_gR, w_aI, w_aL, w_aR, w_aLen, w_tern, w_and, w_or, w_vN, vI, vJ, vA, vS, w_cFv, w_cFs, w_toI, w_toL, w_toV, w_nO, w_nA, eZ, cNot, s_skip, s_brk, s_cnt, s_retV, s_seq, s_if, s_set1, s_setL, s_inc, s_putI, s_putZ, s_putL, s_putR, s_upI, s_AI, s_AL, s_AR, s_UA, s_exp, s_ret, s_retZ, s_scope, s_unBrk, s_sw, s_sup, sSetI, sSetR, sRetI, sRetL, f_of, argE_n, argE_i, argE_r, argE_l, argE_a, sto_0, sto_s, sto_n0, sto_ns, isL_i, isL_r, isL_n, isL_a, isL_l, isL_0, rcv_r, rcv_a, List.getElem?_cons_zero, List.getElem?_cons_succ, List.getElem?_nil, List.set_cons_zero, List.set_cons_succ, List.take_succ_cons, List.take_zero, List.take_nil, List.length_cons, List.length_nil, List.nil_append, List.cons_append, Nat.reduceAdd, Nat.reduceSub, Nat.reduceLT, Nat.reduceEqDiff, Nat.reduceLeDiff, Nat.zero_add, Nat.lt_irrefl, Nat.succ_sub_one, and_true, true_and, and_false, false_and, not_false_eq_true, not_true_eq_false, Bool.false_eq_true, if_true, if_false, reduceIte, decide_true, decide_false, decide_eq_true_eq, Option.some.injEq, and_self, Nat.add_one_sub_one, Nat.lt_add_one, Nat.zero_lt_succ, Value.int.injEq, Value.ref.injEq, Value.long.injEq, exists_eq_left', exists_eq_left, Sum.inl.injEq, Sum.inr.injEq, n_iEq, n_iNe, n_iLt, n_iLe, n_iGt, n_iGe, n_zEq, n_zLt, n_zLe, n_zGt, n_zGe, n_inb, n32_clamp, g.T.t, g.V.kinds]
      exact ⟨f, hI⟩
  obtain ⟨v, m, h1, rfl, h2⟩ := key
  exact ⟨m, h1, h2⟩
def bckR (p : Pl) (r q : Nat) : Bool := pNx p q r && !pSm p q
theorem q_headBack (h : PlanAt M P p) (S : ScrT M B) (hd : P + 12 < B + 45 ∨ B + 64 < P) : ∃ M', f_X7_headBack [.ref (B + 46), .ref P] M = some (none, M') ∧ Fr (fun a => a = B + 47) M M' ∧ StV M' B (pK p) (bckR p) := by
  have hk := h.O.kinds
  have key : wF f_X7_headBack [.ref (B + 46), .ref P] M (fun v M' => v = none ∧ Fr (fun a => a = B + 47) M M' ∧ StV M' B (pK p) (bckR p)) := by
    unfold f_X7_headBack b_X7_headBack
    simp only [w_eK, w_eI, w_eL, w_eR, w_eT, w_b1, w_b2, w_b0, w_b0L, w_gI, w_gL, w_gN, w_gR, w_aI, w_aL, w_aR, w_aLen, w_tern, w_and, w_or, w_vN, vI, vJ, vA, vS, w_cFv, w_cFs, w_toI, w_toL, w_toV, w_nO, w_nA, eZ, cNot, s_skip, s_brk, s_cnt, s_retV, s_seq, s_if, s_set1, s_setL, s_inc, s_putI, s_putZ, s_putL, s_putR, s_upI, s_AI, s_AL, s_AR, s_UA, s_exp, s_ret, s_retZ, s_scope, s_unBrk, s_sw, s_sup, sSetI, sSetR, sRetI, sRetL, f_of, argE_n, argE_i, argE_r, argE_l, argE_a, sto_0, sto_s, sto_n0, sto_ns, isL_i, isL_r, isL_n, isL_a, isL_l, isL_0, rcv_r, rcv_a, List.getElem?_cons_zero, List.getElem?_cons_succ, List.getElem?_nil, List.set_cons_zero, List.set_cons_succ, List.take_succ_cons, List.take_zero, List.take_nil, List.length_cons, List.length_nil, List.nil_append, List.cons_append, Nat.reduceAdd, Nat.reduceSub, Nat.reduceLT, Nat.reduceEqDiff, Nat.reduceLeDiff, Nat.zero_add, Nat.lt_irrefl, Nat.succ_sub_one, and_true, true_and, and_false, false_and, not_false_eq_true, not_true_eq_false, Bool.false_eq_true, if_true, if_false, reduceIte, decide_true, decide_false, decide_eq_true_eq, Option.some.injEq, and_self, Nat.add_one_sub_one, Nat.lt_add_one, Nat.zero_lt_succ, Value.int.injEq, Value.ref.injEq, Value.long.injEq, exists_eq_left', exists_eq_left, Sum.inl.injEq, Sum.inr.injEq, l_0]
    refine s_up (fun j e m => e = [.ref (B + 46), .ref P, .int (n32 j)] ∧ Fr (fun a => a = B + 47) M m ∧ ∀ r, r < j → ∀ i, bt (vi m (B + 47) r) i = bckR p r i) (pK p) ⟨rfl, Fr.refl _ _, fun r hr => by omega⟩ ?_ ?_
    · rintro j e m hj ⟨rfl, f, hI⟩
      have g := h.fr f (fun a h1 h2 z => by omega)
      have S' := S.fr f
      simp (disch := omega) only [w_eK, w_eI, w_eL, w_eR, w_eT, w_b1, w_b2, w_b0, w_b0L, w_gI, w_gL, w_gN, w_gR, w_aI, w_aL, w_aR, w_aLen, w_tern, w_and, w_or, w_vN, vI, vJ, vA, vS, w_cFv, w_cFs, w_toI, w_toL, w_toV, w_nO, w_nA, eZ, cNot, s_skip, s_brk, s_cnt, s_retV, s_seq, s_if, s_set1, s_setL, s_inc, s_putI, s_putZ, s_putL, s_putR, s_upI, s_AI, s_AL, s_AR, s_UA, s_exp, s_ret, s_retZ, s_scope, s_unBrk, s_sw, s_sup, sSetI, sSetR, sRetI, sRetL, f_of, argE_n, argE_i, argE_r, argE_l, argE_a, sto_0, sto_s, sto_n0, sto_ns, isL_i, isL_r, isL_n, isL_a, isL_l, isL_0, rcv_r, rcv_a, List.getElem?_cons_zero, List.getElem?_cons_succ, List.getElem?_nil, List.set_cons_zero, List.set_cons_succ, List.take_succ_cons, List.take_zero, List.take_nil, List.length_cons, List.length_nil, List.nil_append, List.cons_append, Nat.reduceAdd, Nat.reduceSub, Nat.reduceLT, Nat.reduceEqDiff, Nat.reduceLeDiff, Nat.zero_add, Nat.lt_irrefl, Nat.succ_sub_one, and_true, true_and, and_false, false_and, not_false_eq_true, not_true_eq_false, Bool.false_eq_true, if_true, if_false, reduceIte, decide_true, decide_false, decide_eq_true_eq, Option.some.injEq, and_self, Nat.add_one_sub_one, Nat.lt_add_one, Nat.zero_lt_succ, Value.int.injEq, Value.ref.injEq, Value.long.injEq, exists_eq_left', exists_eq_left, Sum.inl.injEq, Sum.inr.injEq, n_iEq, n_iNe, n_iLt, n_iLe, n_iGt, n_iGe, n_zEq, n_zLt, n_zLe, n_zGt, n_zGe, n_inb, n32_clamp, g.T.t, g.V.kinds, hj, S'.t46, S'.w0, S'.t47, g.T.r11, g.T.t6, nar, n32_inc]
      refine ⟨by omega, by omega, f.pI _ _ rfl, fun r hr i => ?_⟩
      rw [vi_pI]
      by_cases er : r = j
      · subst er
        rw [if_pos ⟨rfl, rfl⟩, bt_and, g.V.pv r hj]
        unfold bckR
        by_cases hi : i < 32
        · rw [bt_cpl _ hi, g.V.sm]
        · rw [bt_ge (by omega)]
          cases en : pNx p i r
          · rfl
          · exact absurd (g.O.nx i r en).1 (by omega)
      · rw [if_neg (fun z => er z.2)]; exact hI r (by omega) i
    · rintro e m ⟨rfl, f, hI⟩
      have g := h.fr f (fun a h1 h2 z => by omega)
      simp (disch := omega) only [w_eK, w_eI, w_eL, w_eR, w_eT, w_b1, w_b2, w_b0, w_b0L, w_gI, w_gL, w_gN, w_gR, w_aI, w_aL, w_aR, w_aLen, w_tern, w_and, w_or, w_vN, vI, vJ, vA, vS, w_cFv, w_cFs, w_toI, w_toL, w_toV, w_nO, w_nA, eZ, cNot, s_skip, s_brk, s_cnt, s_retV, s_seq, s_if, s_set1, s_setL, s_inc, s_putI, s_putZ, s_putL, s_putR, s_upI, s_AI, s_AL, s_AR, s_UA, s_exp, s_ret, s_retZ, s_scope, s_unBrk, s_sw, s_sup, sSetI, sSetR, sRetI, sRetL, f_of, argE_n, argE_i, argE_r, argE_l, argE_a, sto_0, sto_s, sto_n0, sto_ns, isL_i, isL_r, isL_n, isL_a, isL_l, isL_0, rcv_r, rcv_a, List.getElem?_cons_zero, List.getElem?_cons_succ, List.getElem?_nil, List.set_cons_zero, List.set_cons_succ, List.take_succ_cons, List.take_zero, List.take_nil, List.length_cons, List.length_nil, List.nil_append, List.cons_append, Nat.reduceAdd, Nat.reduceSub, Nat.reduceLT, Nat.reduceEqDiff, Nat.reduceLeDiff, Nat.zero_add, Nat.lt_irrefl, Nat.succ_sub_one, and_true, true_and, and_false, false_and, not_false_eq_true, not_true_eq_false, Bool.false_eq_true, if_true, if_false, reduceIte, decide_true, decide_false, decide_eq_true_eq, Option.some.injEq, and_self, Nat.add_one_sub_one, Nat.lt_add_one, Nat.zero_lt_succ, Value.int.injEq, Value.ref.injEq, Value.long.injEq, exists_eq_left', exists_eq_left, Sum.inl.injEq, Sum.inr.injEq, n_iEq, n_iNe, n_iLt, n_iLe, n_iGt, n_iGe, n_zEq, n_zLt, n_zLe, n_zGt, n_zGe, n_inb, n32_clamp, g.T.t, g.V.kinds]
      exact ⟨f, hI⟩
  obtain ⟨v, m, h1, rfl, h2⟩ := key
  exact ⟨m, h1, h2⟩
theorem q_followers (h : PlanAt M P p) (S : ScrT M B) {R : Nat → Nat → Bool} (V : StV M B (pK p) R) (x : Int32) : ∃ y, f_X7_followers [.ref (B + 46), .ref P, .int x] M = some (some (.int y), M) ∧ ∀ i, bt y i = true ↔ ∃ r, r < pK p ∧ bt x r = true ∧ R r i = true := by
  have hk := h.O.kinds
  have key : wF f_X7_followers [.ref (B + 46), .ref P, .int x] M (fun v M' => ∃ y, v = some (Value.int y) ∧ M' = M ∧ ∀ i, bt y i = true ↔ ∃ r, r < pK p ∧ bt x r = true ∧ R r i = true) := by
    unfold f_X7_followers b_X7_followers
    simp only [w_eK, w_eI, w_eL, w_eR, w_eT, w_b1, w_b2, w_b0, w_b0L, w_gI, w_gL, w_gN, w_gR, w_aI, w_aL, w_aR, w_aLen, w_tern, w_and, w_or, w_vN, vI, vJ, vA, vS, w_cFv, w_cFs, w_toI, w_toL, w_toV, w_nO, w_nA, eZ, cNot, s_skip, s_brk, s_cnt, s_retV, s_seq, s_if, s_set1, s_setL, s_inc, s_putI, s_putZ, s_putL, s_putR, s_upI, s_AI, s_AL, s_AR, s_UA, s_exp, s_ret, s_retZ, s_scope, s_unBrk, s_sw, s_sup, sSetI, sSetR, sRetI, sRetL, f_of, argE_n, argE_i, argE_r, argE_l, argE_a, sto_0, sto_s, sto_n0, sto_ns, isL_i, isL_r, isL_n, isL_a, isL_l, isL_0, rcv_r, rcv_a, List.getElem?_cons_zero, List.getElem?_cons_succ, List.getElem?_nil, List.set_cons_zero, List.set_cons_succ, List.take_succ_cons, List.take_zero, List.take_nil, List.length_cons, List.length_nil, List.nil_append, List.cons_append, Nat.reduceAdd, Nat.reduceSub, Nat.reduceLT, Nat.reduceEqDiff, Nat.reduceLeDiff, Nat.zero_add, Nat.lt_irrefl, Nat.succ_sub_one, and_true, true_and, and_false, false_and, not_false_eq_true, not_true_eq_false, Bool.false_eq_true, if_true, if_false, reduceIte, decide_true, decide_false, decide_eq_true_eq, Option.some.injEq, and_self, Nat.add_one_sub_one, Nat.lt_add_one, Nat.zero_lt_succ, Value.int.injEq, Value.ref.injEq, Value.long.injEq, exists_eq_left', exists_eq_left, Sum.inl.injEq, Sum.inr.injEq]
    refine s_up (fun j e m => ∃ y, e = [.ref (B + 46), .ref P, .int x, .int y, .int (n32 j)] ∧ m = M ∧ ∀ i, bt y i = true ↔ ∃ r, r < j ∧ bt x r = true ∧ R r i = true) (pK p) ⟨0, rfl, rfl, fun i => by simp [bt_zero]⟩ ?_ ?_
    · rintro j e m hj ⟨y, rfl, rfl, hI⟩
      simp (disch := omega) only [w_eK, w_eI, w_eL, w_eR, w_eT, w_b1, w_b2, w_b0, w_b0L, w_gI, w_gL, w_gN, w_gR, w_aI, w_aL, w_aR, w_aLen, w_tern, w_and, w_or, w_vN, vI, vJ, vA, vS, w_cFv, w_cFs, w_toI, w_toL, w_toV, w_nO, w_nA, eZ, cNot, s_skip, s_brk, s_cnt, s_retV, s_seq, s_if, s_set1, s_setL, s_inc, s_putI, s_putZ, s_putL, s_putR, s_upI, s_AI, s_AL, s_AR, s_UA, s_exp, s_ret, s_retZ, s_scope, s_unBrk, s_sw, s_sup, sSetI, sSetR, sRetI, sRetL, f_of, argE_n, argE_i, argE_r, argE_l, argE_a, sto_0, sto_s, sto_n0, sto_ns, isL_i, isL_r, isL_n, isL_a, isL_l, isL_0, rcv_r, rcv_a, List.getElem?_cons_zero, List.getElem?_cons_succ, List.getElem?_nil, List.set_cons_zero, List.set_cons_succ, List.take_succ_cons, List.take_zero, List.take_nil, List.length_cons, List.length_nil, List.nil_append, List.cons_append, Nat.reduceAdd, Nat.reduceSub, Nat.reduceLT, Nat.reduceEqDiff, Nat.reduceLeDiff, Nat.zero_add, Nat.lt_irrefl, Nat.succ_sub_one, and_true, true_and, and_false, false_and, not_false_eq_true, not_true_eq_false, Bool.false_eq_true, if_true, if_false, reduceIte, decide_true, decide_false, decide_eq_true_eq, Option.some.injEq, and_self, Nat.add_one_sub_one, Nat.lt_add_one, Nat.zero_lt_succ, Value.int.injEq, Value.ref.injEq, Value.long.injEq, exists_eq_left', exists_eq_left, Sum.inl.injEq, Sum.inr.injEq, n_iEq, n_iNe, n_iLt, n_iLe, n_iGt, n_iGe, n_zEq, n_zLt, n_zLe, n_zGt, n_zGe, n_inb, n32_clamp, h.T.t, h.V.kinds, hj, wF_of (q_hasBit _ (show j < 32 by omega) _), i2z_b2i]
      cases ex : bt x j
      · simp only [w_eK, w_eI, w_eL, w_eR, w_eT, w_b1, w_b2, w_b0, w_b0L, w_gI, w_gL, w_gN, w_gR, w_aI, w_aL, w_aR, w_aLen, w_tern, w_and, w_or, w_vN, vI, vJ, vA, vS, w_cFv, w_cFs, w_toI, w_toL, w_toV, w_nO, w_nA, eZ, cNot, s_skip, s_brk, s_cnt, s_retV, s_seq, s_if, s_set1, s_setL, s_inc, s_putI, s_putZ, s_putL, s_putR, s_upI, s_AI, s_AL, s_AR, s_UA, s_exp, s_ret, s_retZ, s_scope, s_unBrk, s_sw, s_sup, sSetI, sSetR, sRetI, sRetL, f_of, argE_n, argE_i, argE_r, argE_l, argE_a, sto_0, sto_s, sto_n0, sto_ns, isL_i, isL_r, isL_n, isL_a, isL_l, isL_0, rcv_r, rcv_a, List.getElem?_cons_zero, List.getElem?_cons_succ, List.getElem?_nil, List.set_cons_zero, List.set_cons_succ, List.take_succ_cons, List.take_zero, List.take_nil, List.length_cons, List.length_nil, List.nil_append, List.cons_append, Nat.reduceAdd, Nat.reduceSub, Nat.reduceLT, Nat.reduceEqDiff, Nat.reduceLeDiff, Nat.zero_add, Nat.lt_irrefl, Nat.succ_sub_one, and_true, true_and, and_false, false_and, not_false_eq_true, not_true_eq_false, Bool.false_eq_true, if_true, if_false, reduceIte, decide_true, decide_false, decide_eq_true_eq, Option.some.injEq, and_self, Nat.add_one_sub_one, Nat.lt_add_one, Nat.zero_lt_succ, Value.int.injEq, Value.ref.injEq, Value.long.injEq, exists_eq_left', exists_eq_left, Sum.inl.injEq, Sum.inr.injEq, n32_inc]
        refine ⟨_, rfl, fun i => ?_⟩
        rw [hI]
        constructor
        · rintro ⟨r, h1, h2, h3⟩; exact ⟨r, by omega, h2, h3⟩
        · rintro ⟨r, h1, h2, h3⟩
          rcases Nat.lt_succ_iff_lt_or_eq.mp h1 with h' | h'
          · exact ⟨r, h', h2, h3⟩
          · subst h'; rw [ex] at h2; cases h2
      · simp (disch := omega) only [w_eK, w_eI, w_eL, w_eR, w_eT, w_b1, w_b2, w_b0, w_b0L, w_gI, w_gL, w_gN, w_gR, w_aI, w_aL, w_aR, w_aLen, w_tern, w_and, w_or, w_vN, vI, vJ, vA, vS, w_cFv, w_cFs, w_toI, w_toL, w_toV, w_nO, w_nA, eZ, cNot, s_skip, s_brk, s_cnt, s_retV, s_seq, s_if, s_set1, s_setL, s_inc, s_putI, s_putZ, s_putL, s_putR, s_upI, s_AI, s_AL, s_AR, s_UA, s_exp, s_ret, s_retZ, s_scope, s_unBrk, s_sw, s_sup, sSetI, sSetR, sRetI, sRetL, f_of, argE_n, argE_i, argE_r, argE_l, argE_a, sto_0, sto_s, sto_n0, sto_ns, isL_i, isL_r, isL_n, isL_a, isL_l, isL_0, rcv_r, rcv_a, List.getElem?_cons_zero, List.getElem?_cons_succ, List.getElem?_nil, List.set_cons_zero, List.set_cons_succ, List.take_succ_cons, List.take_zero, List.take_nil, List.length_cons, List.length_nil, List.nil_append, List.cons_append, Nat.reduceAdd, Nat.reduceSub, Nat.reduceLT, Nat.reduceEqDiff, Nat.reduceLeDiff, Nat.zero_add, Nat.lt_irrefl, Nat.succ_sub_one, and_true, true_and, and_false, false_and, not_false_eq_true, not_true_eq_false, Bool.false_eq_true, if_true, if_false, reduceIte, decide_true, decide_false, decide_eq_true_eq, Option.some.injEq, and_self, Nat.add_one_sub_one, Nat.lt_add_one, Nat.zero_lt_succ, Value.int.injEq, Value.ref.injEq, Value.long.injEq, exists_eq_left', exists_eq_left, Sum.inl.injEq, Sum.inr.injEq, n_iEq, n_iNe, n_iLt, n_iLe, n_iGt, n_iGe, n_zEq, n_zLt, n_zLe, n_zGt, n_zGe, n_inb, n32_clamp, S.t46, S.w0, S.t47, n32_inc]
        refine ⟨by omega, _, rfl, fun i => ?_⟩
        rw [bt_or, Bool.or_eq_true, hI, V j hj]
        constructor
        · rintro (⟨r, h1, h2, h3⟩ | h3)
          · exact ⟨r, by omega, h2, h3⟩
          · exact ⟨j, by omega, ex, h3⟩
        · rintro ⟨r, h1, h2, h3⟩
          rcases Nat.lt_succ_iff_lt_or_eq.mp h1 with h' | h'
          · exact Or.inl ⟨r, h', h2, h3⟩
          · subst h'; exact Or.inr h3
    · rintro e m ⟨y, rfl, rfl, hI⟩
      simp (disch := omega) only [w_eK, w_eI, w_eL, w_eR, w_eT, w_b1, w_b2, w_b0, w_b0L, w_gI, w_gL, w_gN, w_gR, w_aI, w_aL, w_aR, w_aLen, w_tern, w_and, w_or, w_vN, vI, vJ, vA, vS, w_cFv, w_cFs, w_toI, w_toL, w_toV, w_nO, w_nA, eZ, cNot, s_skip, s_brk, s_cnt, s_retV, s_seq, s_if, s_set1, s_setL, s_inc, s_putI, s_putZ, s_putL, s_putR, s_upI, s_AI, s_AL, s_AR, s_UA, s_exp, s_ret, s_retZ, s_scope, s_unBrk, s_sw, s_sup, sSetI, sSetR, sRetI, sRetL, f_of, argE_n, argE_i, argE_r, argE_l, argE_a, sto_0, sto_s, sto_n0, sto_ns, isL_i, isL_r, isL_n, isL_a, isL_l, isL_0, rcv_r, rcv_a, List.getElem?_cons_zero, List.getElem?_cons_succ, List.getElem?_nil, List.set_cons_zero, List.set_cons_succ, List.take_succ_cons, List.take_zero, List.take_nil, List.length_cons, List.length_nil, List.nil_append, List.cons_append, Nat.reduceAdd, Nat.reduceSub, Nat.reduceLT, Nat.reduceEqDiff, Nat.reduceLeDiff, Nat.zero_add, Nat.lt_irrefl, Nat.succ_sub_one, and_true, true_and, and_false, false_and, not_false_eq_true, not_true_eq_false, Bool.false_eq_true, if_true, if_false, reduceIte, decide_true, decide_false, decide_eq_true_eq, Option.some.injEq, and_self, Nat.add_one_sub_one, Nat.lt_add_one, Nat.zero_lt_succ, Value.int.injEq, Value.ref.injEq, Value.long.injEq, exists_eq_left', exists_eq_left, Sum.inl.injEq, Sum.inr.injEq, n_iEq, n_iNe, n_iLt, n_iLe, n_iGt, n_iGe, n_zEq, n_zLt, n_zLe, n_zGt, n_zGe, n_inb, n32_clamp, h.T.t, h.V.kinds]
      exact hI
  obtain ⟨v, m, h1, y, rfl, rfl, h2⟩ := key
  exact ⟨y, h1, h2⟩
/-- one more row: which ends come in -/
def okL (p : Pl) (s0 s1 u0 u1 : Nat) (x : Int32) (i : Nat) : Prop := bt x i = true ∧ u0 + tkc p i 0 ≤ s0 ∧ u1 + tkc p i 1 ≤ s1
theorem q_lengthen (h : PlanAt M P p) (S : ScrT M B) (hd : P + 12 < B + 45 ∨ B + 64 < P) {s0 s1 lg : Nat} {ce : Nat → Nat → Nat → Nat → Prop} {la : Nat → Nat → Prop} (W : WV M B s0 s1 ce la lg) {n u0 u1 : Nat} (hn : n ≤ 24) (h0 : u0 ≤ 9) (h1 : u1 ≤ 9) (x : Int32) : ∃ M' lg', f_X7_lengthen [.ref (B + 46), .ref P, .int (n32 n), .int (n32 u0), .int (n32 u1), .int x] M = some (none, M') ∧ Fr (fun a => a = B + 46 ∨ a = B + 49 ∨ a = B + 50) M M' ∧ WV M' B s0 s1 (fun m a b i => ce m a b i ∨ (m = n ∧ i < pK p ∧ okL p s0 s1 u0 u1 x i ∧ a = u0 + tkc p i 0 ∧ b = u1 + tkc p i 1)) (fun m i => la m i ∨ (m = n ∧ i < pK p ∧ okL p s0 s1 u0 u1 x i)) lg' ∧ ((lg' = n ∧ ∃ i, i < pK p ∧ okL p s0 s1 u0 u1 x i) ∨ (lg' = lg ∧ ¬ ∃ i, i < pK p ∧ okL p s0 s1 u0 u1 x i)) := by
  have hk := h.O.kinds
  have dj : ∀ a, P ≤ a → a ≤ P + 12 → ¬ (a = B + 46 ∨ a = B + 49 ∨ a = B + 50) := fun a h1 h2 z => by omega
  have b0 := W.b0
  have b1 := W.b1
  have key : wF f_X7_lengthen [.ref (B + 46), .ref P, .int (n32 n), .int (n32 u0), .int (n32 u1), .int x] M (fun v M' => v = none ∧ ∃ lg', Fr (fun a => a = B + 46 ∨ a = B + 49 ∨ a = B + 50) M M' ∧ WV M' B s0 s1 (fun m a b i => ce m a b i ∨ (m = n ∧ i < pK p ∧ okL p s0 s1 u0 u1 x i ∧ a = u0 + tkc p i 0 ∧ b = u1 + tkc p i 1)) (fun m i => la m i ∨ (m = n ∧ i < pK p ∧ okL p s0 s1 u0 u1 x i)) lg' ∧ ((lg' = n ∧ ∃ i, i < pK p ∧ okL p s0 s1 u0 u1 x i) ∨ (lg' = lg ∧ ¬ ∃ i, i < pK p ∧ okL p s0 s1 u0 u1 x i))) := by
    unfold f_X7_lengthen b_X7_lengthen
    simp only [w_eK, w_eI, w_eL, w_eR, w_eT, w_b1, w_b2, w_b0, w_b0L, w_gI, w_gL, w_gN, w_gR, w_aI, w_aL, w_aR, w_aLen, w_tern, w_and, w_or, w_vN, vI, vJ, vA, vS, w_cFv, w_cFs, w_toI, w_toL, w_toV, w_nO, w_nA, eZ, cNot, s_skip, s_brk, s_cnt, s_retV, s_seq, s_if, s_set1, s_setL, s_inc, s_putI, s_putZ, s_putL, s_putR, s_upI, s_AI, s_AL, s_AR, s_UA, s_exp, s_ret, s_retZ, s_scope, s_unBrk, s_sw, s_sup, sSetI, sSetR, sRetI, sRetL, f_of, argE_n, argE_i, argE_r, argE_l, argE_a, sto_0, sto_s, sto_n0, sto_ns, isL_i, isL_r, isL_n, isL_a, isL_l, isL_0, rcv_r, rcv_a, List.getElem?_cons_zero, List.getElem?_cons_succ, List.getElem?_nil, List.set_cons_zero, List.set_cons_succ, List.take_succ_cons, List.take_zero, List.take_nil, List.length_cons, List.length_nil, List.nil_append, List.cons_append, Nat.reduceAdd, Nat.reduceSub, Nat.reduceLT, Nat.reduceEqDiff, Nat.reduceLeDiff, Nat.zero_add, Nat.lt_irrefl, Nat.succ_sub_one, and_true, true_and, and_false, false_and, not_false_eq_true, not_true_eq_false, Bool.false_eq_true, if_true, if_false, reduceIte, decide_true, decide_false, decide_eq_true_eq, Option.some.injEq, and_self, Nat.add_one_sub_one, Nat.lt_add_one, Nat.zero_lt_succ, Value.int.injEq, Value.ref.injEq, Value.long.injEq, exists_eq_left', exists_eq_left, Sum.inl.injEq, Sum.inr.injEq, l_0, l_1, l_2, l_3, l_4, l_5, l_6, l_7, l_8, l_9, l_10, l_12, l_20, l_23, l_24, l_25, l_32, l_48, l_60, l_100, l_200, l_255, l_900, n32_add, n32_mul, n32_inc, neg1, neg2, l_11, l_50, l_54, l_58, l_59, l_649]
    refine s_up (fun j e m => e = [.ref (B + 46), .ref P, .int (n32 n), .int (n32 u0), .int (n32 u1), .int x, .int (n32 j)] ∧ ∃ lg', Fr (fun a => a = B + 46 ∨ a = B + 49 ∨ a = B + 50) M m ∧ WV m B s0 s1 (fun m a b i => ce m a b i ∨ (m = n ∧ i < j ∧ okL p s0 s1 u0 u1 x i ∧ a = u0 + tkc p i 0 ∧ b = u1 + tkc p i 1)) (fun m i => la m i ∨ (m = n ∧ i < j ∧ okL p s0 s1 u0 u1 x i)) lg' ∧ ((lg' = n ∧ ∃ i, i < j ∧ okL p s0 s1 u0 u1 x i) ∨ (lg' = lg ∧ ¬ ∃ i, i < j ∧ okL p s0 s1 u0 u1 x i))) (pK p) ⟨rfl, lg, Fr.refl _ _, ⟨W.v0, W.v1, b0, b1, fun n' a b z1 z2 z3 i => ?_, fun n' z1 i => ?_, W.lg⟩, Or.inr ⟨rfl, fun ⟨i, hi, _⟩ => by omega⟩⟩ ?_ ?_
    · rw [W.ce n' a b z1 z2 z3 i]
      exact ⟨fun z => Or.inl z, fun z => z.elim id (fun z => by have := z.2.1; omega)⟩
    · rw [W.la n' z1 i]
      exact ⟨fun z => Or.inl z, fun z => z.elim id (fun z => by have := z.2.1; omega)⟩
    · rintro j e m hj ⟨rfl, lg', f, V, hlg⟩
      have g := h.fr f dj
      have S' := S.fr f
      have t0 := tkc_le h.O hj 0
      have t1 := tkc_le h.O hj 1
      have q0 : f_X4_takesOf [.ref P, .int (n32 j), .int (n32 0)] m = some (some (.int (n32 (tkc p j 0))), m) := q_takesOf g hj (show 0 < 2 by decide)
      have q1 : f_X4_takesOf [.ref P, .int (n32 j), .int (n32 1)] m = some (some (.int (n32 (tkc p j 1))), m) := q_takesOf g hj (show 1 < 2 by decide)
      have no : ¬ okL p s0 s1 u0 u1 x j → (∃ lg'', Fr (fun a => a = B + 46 ∨ a = B + 49 ∨ a = B + 50) M m ∧ WV m B s0 s1 (fun m a b i => ce m a b i ∨ (m = n ∧ i < j + 1 ∧ okL p s0 s1 u0 u1 x i ∧ a = u0 + tkc p i 0 ∧ b = u1 + tkc p i 1)) (fun m i => la m i ∨ (m = n ∧ i < j + 1 ∧ okL p s0 s1 u0 u1 x i)) lg'' ∧ ((lg'' = n ∧ ∃ i, i < j + 1 ∧ okL p s0 s1 u0 u1 x i) ∨ (lg'' = lg ∧ ¬ ∃ i, i < j + 1 ∧ okL p s0 s1 u0 u1 x i))) := by
        intro hno
        have sub : ∀ i, i < j + 1 → okL p s0 s1 u0 u1 x i → i < j := fun i hi ho => by
          rcases Nat.lt_succ_iff_lt_or_eq.mp hi with h' | h'
          · exact h'
          · subst h'; exact absurd ho hno
        refine ⟨lg', f, ⟨V.v0, V.v1, b0, b1, fun n' a b z1 z2 z3 i => ?_, fun n' z1 i => ?_, V.lg⟩, ?_⟩
        · rw [V.ce n' a b z1 z2 z3 i]
          exact ⟨fun z => z.elim Or.inl (fun z => Or.inr ⟨z.1, by omega, z.2.2⟩), fun z => z.elim Or.inl (fun z => Or.inr ⟨z.1, sub i z.2.1 z.2.2.1, z.2.2⟩)⟩
        · rw [V.la n' z1 i]
          exact ⟨fun z => z.elim Or.inl (fun z => Or.inr ⟨z.1, by omega, z.2.2⟩), fun z => z.elim Or.inl (fun z => Or.inr ⟨z.1, sub i z.2.1 z.2.2, z.2.2⟩)⟩
        · rcases hlg with ⟨z1, i, z2, z3⟩ | ⟨z1, z2⟩
          · exact Or.inl ⟨z1, i, by omega, z3⟩
          · exact Or.inr ⟨z1, fun ⟨i, y1, y2⟩ => z2 ⟨i, sub i y1 y2, y2⟩⟩
      simp (maxSteps := 2000000) (disch := omega) only [w_eK, w_eI, w_eL, w_eR, w_eT, w_b1, w_b2, w_b0, w_b0L, w_gI, w_gL, w_gN, w_gR, w_aI, w_aL, w_aR, w_aLen, w_tern, w_and, w_or, w_vN, vI, vJ, vA, vS, w_cFv, w_cFs, w_toI, w_toL, w_toV, w_nO, w_nA, eZ, cNot, s_skip, s_brk, s_cnt, s_retV, s_seq, s_if, s_set1, s_setL, s_inc, s_putI, s_putZ, s_putL, s_putR, s_upI, s_AI, s_AL, s_AR, s_UA, s_exp, s_ret, s_retZ, s_scope, s_unBrk, s_sw, s_sup, sSetI, sSetR, sRetI, sRetL, f_of, argE_n, argE_i, argE_r, argE_l, argE_a, sto_0, sto_s, sto_n0, sto_ns, isL_i, isL_r, isL_n, isL_a, isL_l, isL_0, rcv_r, rcv_a, List.getElem?_cons_zero, List.getElem?_cons_succ, List.getElem?_nil, List.set_cons_zero, List.set_cons_succ, List.take_succ_cons, List.take_zero, List.take_nil, List.length_cons, List.length_nil, List.nil_append, List.cons_append, Nat.reduceAdd, Nat.reduceSub, Nat.reduceLT, Nat.reduceEqDiff, Nat.reduceLeDiff, Nat.zero_add, Nat.lt_irrefl, Nat.succ_sub_one, and_true, true_and, and_false, false_and, not_false_eq_true, not_true_eq_false, Bool.false_eq_true, if_true, if_false, reduceIte, decide_true, decide_false, decide_eq_true_eq, Option.some.injEq, and_self, Nat.add_one_sub_one, Nat.lt_add_one, Nat.zero_lt_succ, Value.int.injEq, Value.ref.injEq, Value.long.injEq, exists_eq_left', exists_eq_left, Sum.inl.injEq, Sum.inr.injEq, l_0, l_1, l_2, l_3, l_4, l_5, l_6, l_7, l_8, l_9, l_10, l_12, l_20, l_23, l_24, l_25, l_32, l_48, l_60, l_100, l_200, l_255, l_900, n32_add, n32_mul, n32_inc, neg1, neg2, l_11, l_50, l_54, l_58, l_59, l_649, n_iEq, n_iNe, n_iLt, n_iLe, n_iGt, n_iGe, n_zEq, n_zLt, n_zLe, n_zGt, n_zGe, n_inb, n32_clamp, g.T.t, g.V.kinds, hj, wF_of (q_hasBit _ (show j < 32 by omega) _), i2z_b2i]
      cases ex : bt x j
      · simp only [w_eK, w_eI, w_eL, w_eR, w_eT, w_b1, w_b2, w_b0, w_b0L, w_gI, w_gL, w_gN, w_gR, w_aI, w_aL, w_aR, w_aLen, w_tern, w_and, w_or, w_vN, vI, vJ, vA, vS, w_cFv, w_cFs, w_toI, w_toL, w_toV, w_nO, w_nA, eZ, cNot, s_skip, s_brk, s_cnt, s_retV, s_seq, s_if, s_set1, s_setL, s_inc, s_putI, s_putZ, s_putL, s_putR, s_upI, s_AI, s_AL, s_AR, s_UA, s_exp, s_ret, s_retZ, s_scope, s_unBrk, s_sw, s_sup, sSetI, sSetR, sRetI, sRetL, f_of, argE_n, argE_i, argE_r, argE_l, argE_a, sto_0, sto_s, sto_n0, sto_ns, isL_i, isL_r, isL_n, isL_a, isL_l, isL_0, rcv_r, rcv_a, List.getElem?_cons_zero, List.getElem?_cons_succ, List.getElem?_nil, List.set_cons_zero, List.set_cons_succ, List.take_succ_cons, List.take_zero, List.take_nil, List.length_cons, List.length_nil, List.nil_append, List.cons_append, Nat.reduceAdd, Nat.reduceSub, Nat.reduceLT, Nat.reduceEqDiff, Nat.reduceLeDiff, Nat.zero_add, Nat.lt_irrefl, Nat.succ_sub_one, and_true, true_and, and_false, false_and, not_false_eq_true, not_true_eq_false, Bool.false_eq_true, if_true, if_false, reduceIte, decide_true, decide_false, decide_eq_true_eq, Option.some.injEq, and_self, Nat.add_one_sub_one, Nat.lt_add_one, Nat.zero_lt_succ, Value.int.injEq, Value.ref.injEq, Value.long.injEq, exists_eq_left', exists_eq_left, Sum.inl.injEq, Sum.inr.injEq, Bool.not_false, n32_inc]
        exact no (fun z => by have := z.1; rw [ex] at this; cases this)
      · simp (disch := omega) only [w_eK, w_eI, w_eL, w_eR, w_eT, w_b1, w_b2, w_b0, w_b0L, w_gI, w_gL, w_gN, w_gR, w_aI, w_aL, w_aR, w_aLen, w_tern, w_and, w_or, w_vN, vI, vJ, vA, vS, w_cFv, w_cFs, w_toI, w_toL, w_toV, w_nO, w_nA, eZ, cNot, s_skip, s_brk, s_cnt, s_retV, s_seq, s_if, s_set1, s_setL, s_inc, s_putI, s_putZ, s_putL, s_putR, s_upI, s_AI, s_AL, s_AR, s_UA, s_exp, s_ret, s_retZ, s_scope, s_unBrk, s_sw, s_sup, sSetI, sSetR, sRetI, sRetL, f_of, argE_n, argE_i, argE_r, argE_l, argE_a, sto_0, sto_s, sto_n0, sto_ns, isL_i, isL_r, isL_n, isL_a, isL_l, isL_0, rcv_r, rcv_a, List.getElem?_cons_zero, List.getElem?_cons_succ, List.getElem?_nil, List.set_cons_zero, List.set_cons_succ, List.take_succ_cons, List.take_zero, List.take_nil, List.length_cons, List.length_nil, List.nil_append, List.cons_append, Nat.reduceAdd, Nat.reduceSub, Nat.reduceLT, Nat.reduceEqDiff, Nat.reduceLeDiff, Nat.zero_add, Nat.lt_irrefl, Nat.succ_sub_one, and_true, true_and, and_false, false_and, not_false_eq_true, not_true_eq_false, Bool.false_eq_true, if_true, if_false, reduceIte, decide_true, decide_false, decide_eq_true_eq, Option.some.injEq, and_self, Nat.add_one_sub_one, Nat.lt_add_one, Nat.zero_lt_succ, Value.int.injEq, Value.ref.injEq, Value.long.injEq, exists_eq_left', exists_eq_left, Sum.inl.injEq, Sum.inr.injEq, Bool.not_true, l_0, l_1, l_2, l_3, l_4, l_5, l_6, l_7, l_8, l_9, l_10, l_12, l_20, l_23, l_24, l_25, l_32, l_48, l_60, l_100, l_200, l_255, l_900, n32_add, n32_mul, n32_inc, neg1, neg2, l_11, l_50, l_54, l_58, l_59, l_649, g.T.t, wF_of q0, wF_of q1, S'.t46, S'.w1, S'.t48, n_iEq, n_iNe, n_iLt, n_iLe, n_iGt, n_iGe, n_zEq, n_zLt, n_zLe, n_zGt, n_zGe, n_inb, n32_clamp, V.v0, V.v1]
        by_cases c0 : u0 + tkc p j 0 ≤ s0
        · by_cases c1 : u1 + tkc p j 1 ≤ s1
          · have ok : okL p s0 s1 u0 u1 x j := ⟨ex, c0, c1⟩
            simp (disch := omega) only [c0, c1, w_eK, w_eI, w_eL, w_eR, w_eT, w_b1, w_b2, w_b0, w_b0L, w_gI, w_gL, w_gN, w_gR, w_aI, w_aL, w_aR, w_aLen, w_tern, w_and, w_or, w_vN, vI, vJ, vA, vS, w_cFv, w_cFs, w_toI, w_toL, w_toV, w_nO, w_nA, eZ, cNot, s_skip, s_brk, s_cnt, s_retV, s_seq, s_if, s_set1, s_setL, s_inc, s_putI, s_putZ, s_putL, s_putR, s_upI, s_AI, s_AL, s_AR, s_UA, s_exp, s_ret, s_retZ, s_scope, s_unBrk, s_sw, s_sup, sSetI, sSetR, sRetI, sRetL, f_of, argE_n, argE_i, argE_r, argE_l, argE_a, sto_0, sto_s, sto_n0, sto_ns, isL_i, isL_r, isL_n, isL_a, isL_l, isL_0, rcv_r, rcv_a, List.getElem?_cons_zero, List.getElem?_cons_succ, List.getElem?_nil, List.set_cons_zero, List.set_cons_succ, List.take_succ_cons, List.take_zero, List.take_nil, List.length_cons, List.length_nil, List.nil_append, List.cons_append, Nat.reduceAdd, Nat.reduceSub, Nat.reduceLT, Nat.reduceEqDiff, Nat.reduceLeDiff, Nat.zero_add, Nat.lt_irrefl, Nat.succ_sub_one, and_true, true_and, and_false, false_and, not_false_eq_true, not_true_eq_false, Bool.false_eq_true, if_true, if_false, reduceIte, decide_true, decide_false, decide_eq_true_eq, Option.some.injEq, and_self, Nat.add_one_sub_one, Nat.lt_add_one, Nat.zero_lt_succ, Value.int.injEq, Value.ref.injEq, Value.long.injEq, exists_eq_left', exists_eq_left, Sum.inl.injEq, Sum.inr.injEq, l_0, l_1, l_2, l_3, l_4, l_5, l_6, l_7, l_8, l_9, l_10, l_12, l_20, l_23, l_24, l_25, l_32, l_48, l_60, l_100, l_200, l_255, l_900, n32_add, n32_mul, n32_inc, neg1, neg2, l_11, l_50, l_54, l_58, l_59, l_649, S'.t46, S'.w2, S'.t49, S'.w3, S'.t50, n_iEq, n_iNe, n_iLt, n_iLe, n_iGt, n_iGe, n_zEq, n_zLt, n_zLe, n_zGt, n_zGe, n_inb, n32_clamp, tg_pI, tg_pL, tg_pR, vr_pI, vr_pL, vl_pI, vl_pR, vi_pL, vi_pR, mN_pI, mN_pL, mN_pR, mU_pI, mU_pL, mU_pR, vi_ne, n32_inc]
            refine ⟨by omega, by omega, by omega, by omega, n, (((f.pI _ _ (Or.inr (Or.inl rfl))).pI _ _ (Or.inr (Or.inr rfl))).pI _ _ (Or.inl rfl)), ⟨?_, ?_, b0, b1, fun n' a b z1 z2 z3 i => ?_, fun n' z1 i => ?_, vi_self _ _ _ _⟩, Or.inl ⟨rfl, j, by omega, ok⟩⟩
            · rw [vi_ne (by omega), vi_ne (by omega), vi_ne (by omega)]; exact V.v0
            · rw [vi_ne (by omega), vi_ne (by omega), vi_ne (by omega)]; exact V.v1
            · rw [vi_ne (by omega), vi_ne (by omega), vi_pI]
              have old := V.ce n' a b z1 z2 z3 i
              by_cases ep : n' = n ∧ a = u0 + tkc p j 0 ∧ b = u1 + tkc p j 1
              · obtain ⟨rfl, rfl, rfl⟩ := ep
                rw [if_pos ⟨rfl, rfl⟩, bt_or, Bool.or_eq_true, old, k_1, bt_shl (by omega)]
                constructor
                · rintro (z | z)
                  · rcases z with z | ⟨y1, y2, y3⟩
                    · exact Or.inl z
                    · exact Or.inr ⟨y1, by omega, y3⟩
                  · have : i = j := of_decide_eq_true z
                    subst this
                    exact Or.inr ⟨rfl, by omega, ok, rfl, rfl⟩
                · rintro (z | ⟨y1, y2, y3, y4, y5⟩)
                  · exact Or.inl (Or.inl z)
                  · rcases Nat.lt_succ_iff_lt_or_eq.mp y2 with h' | h'
                    · exact Or.inl (Or.inr ⟨y1, h', y3, y4, y5⟩)
                    · exact Or.inr (decide_eq_true h')
              · rw [if_neg (fun z => ep (by
                  have := z.2
                  refine ⟨?_, ?_, ?_⟩ <;> omega)), old]
                constructor
                · rintro (z | ⟨y1, y2, y3⟩)
                  · exact Or.inl z
                  · exact Or.inr ⟨y1, by omega, y3⟩
                · rintro (z | ⟨y1, y2, y3, y4, y5⟩)
                  · exact Or.inl z
                  · rcases Nat.lt_succ_iff_lt_or_eq.mp y2 with h' | h'
                    · exact Or.inr ⟨y1, h', y3, y4, y5⟩
                    · subst h'; exact absurd ⟨y1, y4, y5⟩ ep
            · rw [vi_ne (by omega), vi_pI]
              have old := V.la n' z1 i
              by_cases ep : n' = n
              · subst ep
                rw [if_pos ⟨rfl, rfl⟩, bt_or, Bool.or_eq_true, old, k_1, bt_shl (by omega)]
                constructor
                · rintro (z | z)
                  · rcases z with z | ⟨y1, y2, y3⟩
                    · exact Or.inl z
                    · exact Or.inr ⟨y1, by omega, y3⟩
                  · have : i = j := of_decide_eq_true z
                    subst this
                    exact Or.inr ⟨rfl, by omega, ok⟩
                · rintro (z | ⟨y1, y2, y3⟩)
                  · exact Or.inl (Or.inl z)
                  · rcases Nat.lt_succ_iff_lt_or_eq.mp y2 with h' | h'
                    · exact Or.inl (Or.inr ⟨y1, h', y3⟩)
                    · exact Or.inr (decide_eq_true h')
              · rw [if_neg (fun z => ep z.2), vi_ne (by omega), old]
                constructor
                · rintro (z | ⟨y1, y2, y3⟩)
                  · exact Or.inl z
                  · exact absurd y1 ep
                · rintro (z | ⟨y1, y2, y3⟩)
                  · exact Or.inl z
                  · exact absurd y1 ep
          · simp only [c0, c1, w_eK, w_eI, w_eL, w_eR, w_eT, w_b1, w_b2, w_b0, w_b0L, w_gI, w_gL, w_gN, w_gR, w_aI, w_aL, w_aR, w_aLen, w_tern, w_and, w_or, w_vN, vI, vJ, vA, vS, w_cFv, w_cFs, w_toI, w_toL, w_toV, w_nO, w_nA, eZ, cNot, s_skip, s_brk, s_cnt, s_retV, s_seq, s_if, s_set1, s_setL, s_inc, s_putI, s_putZ, s_putL, s_putR, s_upI, s_AI, s_AL, s_AR, s_UA, s_exp, s_ret, s_retZ, s_scope, s_unBrk, s_sw, s_sup, sSetI, sSetR, sRetI, sRetL, f_of, argE_n, argE_i, argE_r, argE_l, argE_a, sto_0, sto_s, sto_n0, sto_ns, isL_i, isL_r, isL_n, isL_a, isL_l, isL_0, rcv_r, rcv_a, List.getElem?_cons_zero, List.getElem?_cons_succ, List.getElem?_nil, List.set_cons_zero, List.set_cons_succ, List.take_succ_cons, List.take_zero, List.take_nil, List.length_cons, List.length_nil, List.nil_append, List.cons_append, Nat.reduceAdd, Nat.reduceSub, Nat.reduceLT, Nat.reduceEqDiff, Nat.reduceLeDiff, Nat.zero_add, Nat.lt_irrefl, Nat.succ_sub_one, and_true, true_and, and_false, false_and, not_false_eq_true, not_true_eq_false, Bool.false_eq_true, if_true, if_false, reduceIte, decide_true, decide_false, decide_eq_true_eq, Option.some.injEq, and_self, Nat.add_one_sub_one, Nat.lt_add_one, Nat.zero_lt_succ, Value.int.injEq, Value.ref.injEq, Value.long.injEq, exists_eq_left', exists_eq_left, Sum.inl.injEq, Sum.inr.injEq, n32_inc]
            exact no (fun z => c1 z.2.2)
        · simp only [c0, w_eK, w_eI, w_eL, w_eR, w_eT, w_b1, w_b2, w_b0, w_b0L, w_gI, w_gL, w_gN, w_gR, w_aI, w_aL, w_aR, w_aLen, w_tern, w_and, w_or, w_vN, vI, vJ, vA, vS, w_cFv, w_cFs, w_toI, w_toL, w_toV, w_nO, w_nA, eZ, cNot, s_skip, s_brk, s_cnt, s_retV, s_seq, s_if, s_set1, s_setL, s_inc, s_putI, s_putZ, s_putL, s_putR, s_upI, s_AI, s_AL, s_AR, s_UA, s_exp, s_ret, s_retZ, s_scope, s_unBrk, s_sw, s_sup, sSetI, sSetR, sRetI, sRetL, f_of, argE_n, argE_i, argE_r, argE_l, argE_a, sto_0, sto_s, sto_n0, sto_ns, isL_i, isL_r, isL_n, isL_a, isL_l, isL_0, rcv_r, rcv_a, List.getElem?_cons_zero, List.getElem?_cons_succ, List.getElem?_nil, List.set_cons_zero, List.set_cons_succ, List.take_succ_cons, List.take_zero, List.take_nil, List.length_cons, List.length_nil, List.nil_append, List.cons_append, Nat.reduceAdd, Nat.reduceSub, Nat.reduceLT, Nat.reduceEqDiff, Nat.reduceLeDiff, Nat.zero_add, Nat.lt_irrefl, Nat.succ_sub_one, and_true, true_and, and_false, false_and, not_false_eq_true, not_true_eq_false, Bool.false_eq_true, if_true, if_false, reduceIte, decide_true, decide_false, decide_eq_true_eq, Option.some.injEq, and_self, Nat.add_one_sub_one, Nat.lt_add_one, Nat.zero_lt_succ, Value.int.injEq, Value.ref.injEq, Value.long.injEq, exists_eq_left', exists_eq_left, Sum.inl.injEq, Sum.inr.injEq, n32_inc]
          exact no (fun z => c0 z.2.1)
    · rintro e m ⟨rfl, lg', f, V, hlg⟩
      have g := h.fr f dj
      simp (disch := omega) only [w_eK, w_eI, w_eL, w_eR, w_eT, w_b1, w_b2, w_b0, w_b0L, w_gI, w_gL, w_gN, w_gR, w_aI, w_aL, w_aR, w_aLen, w_tern, w_and, w_or, w_vN, vI, vJ, vA, vS, w_cFv, w_cFs, w_toI, w_toL, w_toV, w_nO, w_nA, eZ, cNot, s_skip, s_brk, s_cnt, s_retV, s_seq, s_if, s_set1, s_setL, s_inc, s_putI, s_putZ, s_putL, s_putR, s_upI, s_AI, s_AL, s_AR, s_UA, s_exp, s_ret, s_retZ, s_scope, s_unBrk, s_sw, s_sup, sSetI, sSetR, sRetI, sRetL, f_of, argE_n, argE_i, argE_r, argE_l, argE_a, sto_0, sto_s, sto_n0, sto_ns, isL_i, isL_r, isL_n, isL_a, isL_l, isL_0, rcv_r, rcv_a, List.getElem?_cons_zero, List.getElem?_cons_succ, List.getElem?_nil, List.set_cons_zero, List.set_cons_succ, List.take_succ_cons, List.take_zero, List.take_nil, List.length_cons, List.length_nil, List.nil_append, List.cons_append, Nat.reduceAdd, Nat.reduceSub, Nat.reduceLT, Nat.reduceEqDiff, Nat.reduceLeDiff, Nat.zero_add, Nat.lt_irrefl, Nat.succ_sub_one, and_true, true_and, and_false, false_and, not_false_eq_true, not_true_eq_false, Bool.false_eq_true, if_true, if_false, reduceIte, decide_true, decide_false, decide_eq_true_eq, Option.some.injEq, and_self, Nat.add_one_sub_one, Nat.lt_add_one, Nat.zero_lt_succ, Value.int.injEq, Value.ref.injEq, Value.long.injEq, exists_eq_left', exists_eq_left, Sum.inl.injEq, Sum.inr.injEq, n_iEq, n_iNe, n_iLt, n_iLe, n_iGt, n_iGe, n_zEq, n_zLt, n_zLe, n_zGt, n_zGe, n_inb, n32_clamp, g.T.t, g.V.kinds]
      exact ⟨lg', f, V, hlg⟩
  obtain ⟨v, m, h1, rfl, lg', h2⟩ := key
  exact ⟨m, lg', h1, h2⟩
end
