/-! THE CLASS: undo, mark, back, feed -/
section
variable {M : qM} {B P P2 L L2 : Nat} {ac : Nat → Nat} {A : Ab}
theorem Cls.nacs (h : Cls M B P P2 L L2 ac A) {l : List Lo} (hl : l.length ≤ 12) (hs : ∀ (i : Nat) (lo : Lo), l[i]? = some lo → (aAc A)[i]? = some lo) : Cls (pI M B 8 (n32 l.length)) B P P2 L L2 ac (setAc A l) := by
  have f : Fr (fun a => a = B) M (pI M B 8 (n32 l.length)) := (Fr.refl _ M).pI 8 _ rfl
  have hpl := h.T.pl
  refine ⟨h.T.fr f, h.S.fr f, ⟨?_, ?_, h.V.trl, vi_self _ _ _ _, hl, ?_, h.V.nmk3, ?_, h.V.tl9, fun i hi => ?_, ?_, fun e => ?_, h.V.P.fr f (fun a h1 h2 e => by omega), h.V.L.fr f (fun a h1 h2 e => by omega), fun i lo hi => (h.V.ac i lo (hs i lo hi)).fr f (fun a h1 h2 e => ?_), fun i lo hi => (h.V.mk i lo hi).fr f (fun a h1 h2 e => by omega)⟩⟩
  · rw [vi_nk (by decide)]; exact h.V.told
  · rw [vi_nk (by decide)]; exact h.V.tr
  · rw [vi_nk (by decide)]; exact h.V.nmk
  · rw [vi_nk (by decide)]; exact h.V.tl
  · rw [vi_ne (by omega)]; exact h.V.tp i hi
  · rw [vi_ne (by omega)]; exact h.V.ft
  · rw [vi_ne (by omega)]; exact h.V.pc e
  · have := h.T.ai (h.acl (hs i lo hi))
    omega
theorem Cls.best (h : Cls M B P P2 L L2 ac A) {a k : Nat} (ha : B + 45 ≤ a ∧ a ≤ B + 64) {x : Int32} : Cls (pI M a k x) B P P2 L L2 ac A := by
  have f : Fr (fun b => b = a) M (pI M a k x) := (Fr.refl _ M).pI k _ rfl
  have hpl := h.T.pl
  refine ⟨h.T.fr f, h.S.fr f, ⟨?_, ?_, h.V.trl, ?_, h.V.nac12, ?_, h.V.nmk3, ?_, h.V.tl9, fun i hi => ?_, ?_, fun e => ?_, h.V.P.fr f (fun a h1 h2 e => by omega), h.V.L.fr f (fun a h1 h2 e => by omega), fun i lo hi => (h.V.ac i lo hi).fr f (fun a h1 h2 e => ?_), fun i lo hi => (h.V.mk i lo hi).fr f (fun a h1 h2 e => by omega)⟩⟩
  · rw [vi_ne (by omega)]; exact h.V.told
  · rw [vi_ne (by omega)]; exact h.V.tr
  · rw [vi_ne (by omega)]; exact h.V.nac
  · rw [vi_ne (by omega)]; exact h.V.nmk
  · rw [vi_ne (by omega)]; exact h.V.tl
  · rw [vi_ne (by omega)]; exact h.V.tp i hi
  · rw [vi_ne (by omega)]; exact h.V.ft
  · rw [vi_ne (by omega)]; exact h.V.pc e
  · have := h.T.ai (h.acl hi)
    omega
def undoA (A : Ab) : Ab × Bool := match (aAc A)[(aAc A).length - 1]? with
  | some lo => (setTr (setLo (setAc A (aAc A).dropLast) lo) 0, true)
  | none => (setTr A 6, false)
theorem c_undo (h : Cls M B P P2 L L2 ac A) : ∃ M', f_X8_undo [.ref B] M = some (some (.int (b2i (undoA A).2)), M') ∧ CR M B P P2 L L2 A (undoA A).1 M' := by
  have hn := h.V.nac12
  have hpl := h.T.pl
  have key : wF f_X8_undo [.ref B] M (fun v M' => v = some (Value.int (b2i (undoA A).2)) ∧ CR M B P P2 L L2 A (undoA A).1 M') := by
    unfold f_X8_undo b_X8_undo
    simp (disch := omega) only [w_eK, w_eI, w_eL, w_eR, w_eT, w_b1, w_b2, w_b0, w_b0L, w_gI, w_gL, w_gN, w_gR, w_aI, w_aL, w_aR, w_aLen, w_tern, w_and, w_or, w_vN, vI, vJ, vA, vS, w_cFv, w_cFs, w_toI, w_toL, w_toV, w_nO, w_nA, eZ, cNot, s_skip, s_brk, s_cnt, s_retV, s_seq, s_if, s_set1, s_setL, s_inc, s_putI, s_putZ, s_putL, s_putR, s_upI, s_AI, s_AL, s_AR, s_UA, s_exp, s_ret, s_retZ, s_scope, s_unBrk, s_sw, s_sup, sSetI, sSetR, sRetI, sRetL, f_of, argE_n, argE_i, argE_r, argE_l, argE_a, sto_0, sto_s, sto_n0, sto_ns, isL_i, isL_r, isL_n, isL_a, isL_l, isL_0, rcv_r, rcv_a, List.getElem?_cons_zero, List.getElem?_cons_succ, List.getElem?_nil, List.set_cons_zero, List.set_cons_succ, List.take_succ_cons, List.take_zero, List.take_nil, List.length_cons, List.length_nil, List.nil_append, List.cons_append, Nat.reduceAdd, Nat.reduceSub, Nat.reduceLT, Nat.reduceEqDiff, Nat.reduceLeDiff, Nat.zero_add, Nat.lt_irrefl, Nat.succ_sub_one, and_true, true_and, and_false, false_and, not_false_eq_true, not_true_eq_false, Bool.false_eq_true, if_true, if_false, reduceIte, decide_true, decide_false, decide_eq_true_eq, Option.some.injEq, and_self, Nat.add_one_sub_one, Nat.lt_add_one, Nat.zero_lt_succ, Value.int.injEq, Value.ref.injEq, Value.long.injEq, exists_eq_left', exists_eq_left, Sum.inl.injEq, Sum.inr.injEq, l_0, l_1, l_2, l_3, l_4, l_5, l_6, l_7, l_8, l_9, l_10, l_12, l_20, l_23, l_24, l_25, l_32, l_48, l_60, l_100, l_200, l_255, l_900, n32_add, n32_mul, n32_inc, neg1, neg2, l_11, l_50, l_54, l_58, l_59, l_649, h.T.t, h.V.nac, n_iEq, n_iNe, n_iLt, n_iLe, n_iGt, n_iGe, n_zEq, n_zLt, n_zLe, n_zGt, n_zGe, n_inb, n32_clamp]
    cases e : (aAc A)[(aAc A).length - 1]? with
    | none =>
      have : (aAc A).length = 0 := by
        have := List.getElem?_eq_none_iff.mp e
        omega
      rw [show undoA A = (setTr A 6, false) by simp [undoA, e]]
      simp only [this, w_eK, w_eI, w_eL, w_eR, w_eT, w_b1, w_b2, w_b0, w_b0L, w_gI, w_gL, w_gN, w_gR, w_aI, w_aL, w_aR, w_aLen, w_tern, w_and, w_or, w_vN, vI, vJ, vA, vS, w_cFv, w_cFs, w_toI, w_toL, w_toV, w_nO, w_nA, eZ, cNot, s_skip, s_brk, s_cnt, s_retV, s_seq, s_if, s_set1, s_setL, s_inc, s_putI, s_putZ, s_putL, s_putR, s_upI, s_AI, s_AL, s_AR, s_UA, s_exp, s_ret, s_retZ, s_scope, s_unBrk, s_sw, s_sup, sSetI, sSetR, sRetI, sRetL, f_of, argE_n, argE_i, argE_r, argE_l, argE_a, sto_0, sto_s, sto_n0, sto_ns, isL_i, isL_r, isL_n, isL_a, isL_l, isL_0, rcv_r, rcv_a, List.getElem?_cons_zero, List.getElem?_cons_succ, List.getElem?_nil, List.set_cons_zero, List.set_cons_succ, List.take_succ_cons, List.take_zero, List.take_nil, List.length_cons, List.length_nil, List.nil_append, List.cons_append, Nat.reduceAdd, Nat.reduceSub, Nat.reduceLT, Nat.reduceEqDiff, Nat.reduceLeDiff, Nat.zero_add, Nat.lt_irrefl, Nat.succ_sub_one, and_true, true_and, and_false, false_and, not_false_eq_true, not_true_eq_false, Bool.false_eq_true, if_true, if_false, reduceIte, decide_true, decide_false, decide_eq_true_eq, Option.some.injEq, and_self, Nat.add_one_sub_one, Nat.lt_add_one, Nat.zero_lt_succ, Value.int.injEq, Value.ref.injEq, Value.long.injEq, exists_eq_left', exists_eq_left, Sum.inl.injEq, Sum.inr.injEq, h.T.t, wF_of (q_denied h.T _)]
      exact ⟨rfl, rfl, CR.ro h (by decide) (by decide)⟩
    | some lo =>
      have hlt := (List.getElem?_eq_some_iff.mp e).1
      rw [show undoA A = (setTr (setLo (setAc A (aAc A).dropLast) lo) 0, true) by simp [undoA, e]]
      have c1 : Cls (pI M B 8 (n32 ((aAc A).length - 1))) B P P2 L L2 ac (setAc A (aAc A).dropLast) := by
        have := h.nacs (l := (aAc A).dropLast) (by rw [List.length_dropLast]; omega) (fun i lo' hi => by
          have hi' := (List.getElem?_eq_some_iff.mp hi).1
          rw [List.length_dropLast] at hi'
          rw [List.getElem?_dropLast, if_pos hi'] at hi
          exact hi)
        rw [List.length_dropLast] at this
        exact this
      have f1 : Fr (fun a => a = B) M (pI M B 8 (n32 ((aAc A).length - 1))) := (Fr.refl _ M).pI 8 _ rfl
      have hai := h.T.ai (show (aAc A).length - 1 < 12 by omega)
      have g1 := (h.V.ac _ lo e).fr f1 (fun a h1 h2 z => by omega)
      obtain ⟨M2, e2, F2, g2⟩ := q_copyFrom c1.T.T3 g1 (by omega)
      have c2 := c1.loom F2 g2
      have c3 := c2.best (a := B + 54) (k := 8) (x := n32 0) (by omega)
      have c4 := c3.tr (t := 0) (by decide) (by decide)
      simp (disch := omega) only [show ¬ (aAc A).length = 0 by omega, w_eK, w_eI, w_eL, w_eR, w_eT, w_b1, w_b2, w_b0, w_b0L, w_gI, w_gL, w_gN, w_gR, w_aI, w_aL, w_aR, w_aLen, w_tern, w_and, w_or, w_vN, vI, vJ, vA, vS, w_cFv, w_cFs, w_toI, w_toL, w_toV, w_nO, w_nA, eZ, cNot, s_skip, s_brk, s_cnt, s_retV, s_seq, s_if, s_set1, s_setL, s_inc, s_putI, s_putZ, s_putL, s_putR, s_upI, s_AI, s_AL, s_AR, s_UA, s_exp, s_ret, s_retZ, s_scope, s_unBrk, s_sw, s_sup, sSetI, sSetR, sRetI, sRetL, f_of, argE_n, argE_i, argE_r, argE_l, argE_a, sto_0, sto_s, sto_n0, sto_ns, isL_i, isL_r, isL_n, isL_a, isL_l, isL_0, rcv_r, rcv_a, List.getElem?_cons_zero, List.getElem?_cons_succ, List.getElem?_nil, List.set_cons_zero, List.set_cons_succ, List.take_succ_cons, List.take_zero, List.take_nil, List.length_cons, List.length_nil, List.nil_append, List.cons_append, Nat.reduceAdd, Nat.reduceSub, Nat.reduceLT, Nat.reduceEqDiff, Nat.reduceLeDiff, Nat.zero_add, Nat.lt_irrefl, Nat.succ_sub_one, and_true, true_and, and_false, false_and, not_false_eq_true, not_true_eq_false, Bool.false_eq_true, if_true, if_false, reduceIte, decide_true, decide_false, decide_eq_true_eq, Option.some.injEq, and_self, Nat.add_one_sub_one, Nat.lt_add_one, Nat.zero_lt_succ, Value.int.injEq, Value.ref.injEq, Value.long.injEq, exists_eq_left', exists_eq_left, Sum.inl.injEq, Sum.inr.injEq, h.T.t, tg_pI, tg_pL, tg_pR, vr_pI, vr_pL, vl_pI, vl_pR, vi_pL, vi_pR, mN_pI, mN_pL, mN_pR, mU_pI, mU_pL, mU_pR, h.T.r4, h.T.T3.t, h.T.r7, h.T.t43, vi_self, n_iEq, n_iNe, n_iLt, n_iLe, n_iGt, n_iGe, n_zEq, n_zLt, n_zLe, n_zGt, n_zGe, n_inb, n32_clamp, n32_sub, h.T.ra ((aAc A).length - 1) (by omega), wF_of e2, c2.T.t, c2.T.r12, c2.S.t54, wF_of (q_forget c2.S), wF_of (q_granted c3.T)]
      refine ⟨by omega, rfl, rfl, ⟨ac, c4⟩, ((f1.out (fun a z => by omega)).trans (Out.loom c1.T F2)).trans ((((Fr.refl (fun a => a = B ∨ a = B + 54) M2).pI 8 _ (Or.inr rfl)).pI 6 _ (Or.inl rfl)).out (fun a z => by omega)), Or.inr ?_⟩
      rw [vi_ne (by omega), vi_self]
  obtain ⟨v, m, h1, rfl, h2⟩ := key
  exact ⟨m, h1, h2⟩
def markA (A : Ab) : Ab × Int32 := if aTd A = true then (if 3 ≤ (aMk A).length then (setTr A 3, -1) else (setTr (setMk A (aMk A ++ [aLm A])) 0, n32 (aMk A).length)) else (setTr A 1, -1)
theorem c_mark (h : Cls M B P P2 L L2 ac A) : ∃ M', f_X8_mark [.ref B] M = some (some (.int (markA A).2), M') ∧ CR M B P P2 L L2 A (markA A).1 M' := by
  have hn := h.V.nmk3
  have hpl := h.T.pl
  have key : wF f_X8_mark [.ref B] M (fun v M' => v = some (Value.int (markA A).2) ∧ CR M B P P2 L L2 A (markA A).1 M') := by
    unfold f_X8_mark b_X8_mark
    simp (disch := omega) only [w_eK, w_eI, w_eL, w_eR, w_eT, w_b1, w_b2, w_b0, w_b0L, w_gI, w_gL, w_gN, w_gR, w_aI, w_aL, w_aR, w_aLen, w_tern, w_and, w_or, w_vN, vI, vJ, vA, vS, w_cFv, w_cFs, w_toI, w_toL, w_toV, w_nO, w_nA, eZ, cNot, s_skip, s_brk, s_cnt, s_retV, s_seq, s_if, s_set1, s_setL, s_inc, s_putI, s_putZ, s_putL, s_putR, s_upI, s_AI, s_AL, s_AR, s_UA, s_exp, s_ret, s_retZ, s_scope, s_unBrk, s_sw, s_sup, sSetI, sSetR, sRetI, sRetL, f_of, argE_n, argE_i, argE_r, argE_l, argE_a, sto_0, sto_s, sto_n0, sto_ns, isL_i, isL_r, isL_n, isL_a, isL_l, isL_0, rcv_r, rcv_a, List.getElem?_cons_zero, List.getElem?_cons_succ, List.getElem?_nil, List.set_cons_zero, List.set_cons_succ, List.take_succ_cons, List.take_zero, List.take_nil, List.length_cons, List.length_nil, List.nil_append, List.cons_append, Nat.reduceAdd, Nat.reduceSub, Nat.reduceLT, Nat.reduceEqDiff, Nat.reduceLeDiff, Nat.zero_add, Nat.lt_irrefl, Nat.succ_sub_one, and_true, true_and, and_false, false_and, not_false_eq_true, not_true_eq_false, Bool.false_eq_true, if_true, if_false, reduceIte, decide_true, decide_false, decide_eq_true_eq, Option.some.injEq, and_self, Nat.add_one_sub_one, Nat.lt_add_one, Nat.zero_lt_succ, Value.int.injEq, Value.ref.injEq, Value.long.injEq, exists_eq_left', exists_eq_left, Sum.inl.injEq, Sum.inr.injEq, l_0, l_1, l_2, l_3, l_4, l_5, l_6, l_7, l_8, l_9, l_10, l_12, l_20, l_23, l_24, l_25, l_32, l_48, l_60, l_100, l_200, l_255, l_900, n32_add, n32_mul, n32_inc, neg1, neg2, l_11, l_50, l_54, l_58, l_59, l_649, h.T.t, h.V.told, i2z_b2i]
    cases e : aTd A
    · rw [show markA A = (setTr A 1, -1) by simp [markA, e]]
      simp only [w_eK, w_eI, w_eL, w_eR, w_eT, w_b1, w_b2, w_b0, w_b0L, w_gI, w_gL, w_gN, w_gR, w_aI, w_aL, w_aR, w_aLen, w_tern, w_and, w_or, w_vN, vI, vJ, vA, vS, w_cFv, w_cFs, w_toI, w_toL, w_toV, w_nO, w_nA, eZ, cNot, s_skip, s_brk, s_cnt, s_retV, s_seq, s_if, s_set1, s_setL, s_inc, s_putI, s_putZ, s_putL, s_putR, s_upI, s_AI, s_AL, s_AR, s_UA, s_exp, s_ret, s_retZ, s_scope, s_unBrk, s_sw, s_sup, sSetI, sSetR, sRetI, sRetL, f_of, argE_n, argE_i, argE_r, argE_l, argE_a, sto_0, sto_s, sto_n0, sto_ns, isL_i, isL_r, isL_n, isL_a, isL_l, isL_0, rcv_r, rcv_a, List.getElem?_cons_zero, List.getElem?_cons_succ, List.getElem?_nil, List.set_cons_zero, List.set_cons_succ, List.take_succ_cons, List.take_zero, List.take_nil, List.length_cons, List.length_nil, List.nil_append, List.cons_append, Nat.reduceAdd, Nat.reduceSub, Nat.reduceLT, Nat.reduceEqDiff, Nat.reduceLeDiff, Nat.zero_add, Nat.lt_irrefl, Nat.succ_sub_one, and_true, true_and, and_false, false_and, not_false_eq_true, not_true_eq_false, Bool.false_eq_true, if_true, if_false, reduceIte, decide_true, decide_false, decide_eq_true_eq, Option.some.injEq, and_self, Nat.add_one_sub_one, Nat.lt_add_one, Nat.zero_lt_succ, Value.int.injEq, Value.ref.injEq, Value.long.injEq, exists_eq_left', exists_eq_left, Sum.inl.injEq, Sum.inr.injEq, Bool.not_false, h.T.t, wF_of (q_refused h.T 1)]
      exact CR.ro h (t := 1) (by decide) (by decide)
    · simp (disch := omega) only [w_eK, w_eI, w_eL, w_eR, w_eT, w_b1, w_b2, w_b0, w_b0L, w_gI, w_gL, w_gN, w_gR, w_aI, w_aL, w_aR, w_aLen, w_tern, w_and, w_or, w_vN, vI, vJ, vA, vS, w_cFv, w_cFs, w_toI, w_toL, w_toV, w_nO, w_nA, eZ, cNot, s_skip, s_brk, s_cnt, s_retV, s_seq, s_if, s_set1, s_setL, s_inc, s_putI, s_putZ, s_putL, s_putR, s_upI, s_AI, s_AL, s_AR, s_UA, s_exp, s_ret, s_retZ, s_scope, s_unBrk, s_sw, s_sup, sSetI, sSetR, sRetI, sRetL, f_of, argE_n, argE_i, argE_r, argE_l, argE_a, sto_0, sto_s, sto_n0, sto_ns, isL_i, isL_r, isL_n, isL_a, isL_l, isL_0, rcv_r, rcv_a, List.getElem?_cons_zero, List.getElem?_cons_succ, List.getElem?_nil, List.set_cons_zero, List.set_cons_succ, List.take_succ_cons, List.take_zero, List.take_nil, List.length_cons, List.length_nil, List.nil_append, List.cons_append, Nat.reduceAdd, Nat.reduceSub, Nat.reduceLT, Nat.reduceEqDiff, Nat.reduceLeDiff, Nat.zero_add, Nat.lt_irrefl, Nat.succ_sub_one, and_true, true_and, and_false, false_and, not_false_eq_true, not_true_eq_false, Bool.false_eq_true, if_true, if_false, reduceIte, decide_true, decide_false, decide_eq_true_eq, Option.some.injEq, and_self, Nat.add_one_sub_one, Nat.lt_add_one, Nat.zero_lt_succ, Value.int.injEq, Value.ref.injEq, Value.long.injEq, exists_eq_left', exists_eq_left, Sum.inl.injEq, Sum.inr.injEq, Bool.not_true, h.T.t, h.V.nmk, n_iEq, n_iNe, n_iLt, n_iLe, n_iGt, n_iGe, n_zEq, n_zLt, n_zLe, n_zGt, n_zGe, n_inb, n32_clamp]
      by_cases e3 : 3 ≤ (aMk A).length
      · rw [show markA A = (setTr A 3, -1) by simp [markA, e, e3]]
        simp only [e3, w_eK, w_eI, w_eL, w_eR, w_eT, w_b1, w_b2, w_b0, w_b0L, w_gI, w_gL, w_gN, w_gR, w_aI, w_aL, w_aR, w_aLen, w_tern, w_and, w_or, w_vN, vI, vJ, vA, vS, w_cFv, w_cFs, w_toI, w_toL, w_toV, w_nO, w_nA, eZ, cNot, s_skip, s_brk, s_cnt, s_retV, s_seq, s_if, s_set1, s_setL, s_inc, s_putI, s_putZ, s_putL, s_putR, s_upI, s_AI, s_AL, s_AR, s_UA, s_exp, s_ret, s_retZ, s_scope, s_unBrk, s_sw, s_sup, sSetI, sSetR, sRetI, sRetL, f_of, argE_n, argE_i, argE_r, argE_l, argE_a, sto_0, sto_s, sto_n0, sto_ns, isL_i, isL_r, isL_n, isL_a, isL_l, isL_0, rcv_r, rcv_a, List.getElem?_cons_zero, List.getElem?_cons_succ, List.getElem?_nil, List.set_cons_zero, List.set_cons_succ, List.take_succ_cons, List.take_zero, List.take_nil, List.length_cons, List.length_nil, List.nil_append, List.cons_append, Nat.reduceAdd, Nat.reduceSub, Nat.reduceLT, Nat.reduceEqDiff, Nat.reduceLeDiff, Nat.zero_add, Nat.lt_irrefl, Nat.succ_sub_one, and_true, true_and, and_false, false_and, not_false_eq_true, not_true_eq_false, Bool.false_eq_true, if_true, if_false, reduceIte, decide_true, decide_false, decide_eq_true_eq, Option.some.injEq, and_self, Nat.add_one_sub_one, Nat.lt_add_one, Nat.zero_lt_succ, Value.int.injEq, Value.ref.injEq, Value.long.injEq, exists_eq_left', exists_eq_left, Sum.inl.injEq, Sum.inr.injEq, h.T.t, wF_of (q_refused h.T 3)]
        exact CR.ro h (t := 3) (by decide) (by decide)
      · rw [show markA A = (setTr (setMk A (aMk A ++ [aLm A])) 0, n32 (aMk A).length) by simp [markA, e, e3]]
        have hlt : (aMk A).length < 3 := by omega
        obtain ⟨M2, e2, F2, g2⟩ := q_copyFrom (h.T.Tm _ hlt) h.V.L (by omega)
        have F3 : Fr (fun a => (B + 125 + 5 * (aMk A).length ≤ a ∧ a ≤ B + 125 + 5 * (aMk A).length + 4) ∨ a = B) M (pI M2 B 10 (n32 ((aMk A).length + 1))) := by
          have F1 : Fr (fun a => (B + 125 + 5 * (aMk A).length ≤ a ∧ a ≤ B + 125 + 5 * (aMk A).length + 4) ∨ a = B) M M2 := F2.mono (fun a z => Or.inl z)
          exact F1.pI 10 _ (Or.inr rfl)
        have F4 : Fr (fun a => a = B) M2 (pI M2 B 10 (n32 ((aMk A).length + 1))) := (Fr.refl _ _).pI 10 _ rfl
        have ev : ∀ j, j ≠ 10 → vi (pI M2 B 10 (n32 ((aMk A).length + 1))) B j = vi M B j := fun j hj => by rw [vi_nk hj, F2.vi (by omega)]
        have c2 : Cls (pI M2 B 10 (n32 ((aMk A).length + 1))) B P P2 L L2 ac (setMk A (aMk A ++ [aLm A])) := by
          refine ⟨h.T.fr F3, h.S.fr F3, ⟨?_, ?_, h.V.trl, ?_, h.V.nac12, ?_, ?_, ?_, h.V.tl9, fun i hi => ?_, ?_, fun e4 => ?_, h.V.P.fr F3 (fun a h1 h2 z => by omega), h.V.L.fr F3 (fun a h1 h2 z => by omega), fun i lo hi => ?_, fun i lo hi => ?_⟩⟩
          · rw [ev 5 (by decide)]; exact h.V.told
          · rw [ev 6 (by decide)]; exact h.V.tr
          · rw [ev 8 (by decide)]; exact h.V.nac
          · rw [vi_self]
            show n32 ((aMk A).length + 1) = n32 (aMk A ++ [aLm A]).length
            simp
          · show (aMk A ++ [aLm A]).length ≤ 3
            simp; omega
          · rw [ev 1 (by decide)]; exact h.V.tl
          · rw [F3.vi (by omega)]; exact h.V.tp i hi
          · rw [F3.vi (by omega)]; exact h.V.ft
          · rw [F3.vi (by omega)]; exact h.V.pc e4
          · have := h.T.ai (h.acl hi)
            exact (h.V.ac i lo hi).fr F3 (fun a h1 h2 z => by omega)
          · have hi : (aMk A ++ [aLm A])[i]? = some lo := hi
            by_cases hlt' : i < (aMk A).length
            · rw [List.getElem?_append_left hlt'] at hi
              exact (h.V.mk i lo hi).fr F3 (fun a h1 h2 z => by omega)
            · have hi2 : i = (aMk A).length := by
                have := (List.getElem?_eq_some_iff.mp hi).1
                simp at this
                omega
              subst hi2
              rw [List.getElem?_append_right (Nat.le_refl _)] at hi
              simp at hi
              subst hi
              exact g2.fr F4 (fun a h1 h2 z => by omega)
        have hv : vi M2 B 10 = n32 (aMk A).length := by rw [F2.vi (by omega)]; exact h.V.nmk
        have T2 := h.T.fr F2
        simp (disch := omega) only [e3, w_eK, w_eI, w_eL, w_eR, w_eT, w_b1, w_b2, w_b0, w_b0L, w_gI, w_gL, w_gN, w_gR, w_aI, w_aL, w_aR, w_aLen, w_tern, w_and, w_or, w_vN, vI, vJ, vA, vS, w_cFv, w_cFs, w_toI, w_toL, w_toV, w_nO, w_nA, eZ, cNot, s_skip, s_brk, s_cnt, s_retV, s_seq, s_if, s_set1, s_setL, s_inc, s_putI, s_putZ, s_putL, s_putR, s_upI, s_AI, s_AL, s_AR, s_UA, s_exp, s_ret, s_retZ, s_scope, s_unBrk, s_sw, s_sup, sSetI, sSetR, sRetI, sRetL, f_of, argE_n, argE_i, argE_r, argE_l, argE_a, sto_0, sto_s, sto_n0, sto_ns, isL_i, isL_r, isL_n, isL_a, isL_l, isL_0, rcv_r, rcv_a, List.getElem?_cons_zero, List.getElem?_cons_succ, List.getElem?_nil, List.set_cons_zero, List.set_cons_succ, List.take_succ_cons, List.take_zero, List.take_nil, List.length_cons, List.length_nil, List.nil_append, List.cons_append, Nat.reduceAdd, Nat.reduceSub, Nat.reduceLT, Nat.reduceEqDiff, Nat.reduceLeDiff, Nat.zero_add, Nat.lt_irrefl, Nat.succ_sub_one, and_true, true_and, and_false, false_and, not_false_eq_true, not_true_eq_false, Bool.false_eq_true, if_true, if_false, reduceIte, decide_true, decide_false, decide_eq_true_eq, Option.some.injEq, and_self, Nat.add_one_sub_one, Nat.lt_add_one, Nat.zero_lt_succ, Value.int.injEq, Value.ref.injEq, Value.long.injEq, exists_eq_left', exists_eq_left, Sum.inl.injEq, Sum.inr.injEq, h.T.t, h.T.r9, h.T.t44, n_iEq, n_iNe, n_iLt, n_iLe, n_iGt, n_iGe, n_zEq, n_zLt, n_zLe, n_zGt, n_zGe, n_inb, n32_clamp, hlt, h.V.nmk, h.T.rm _ hlt, (h.T.Tm _ hlt).t, h.T.r4, wF_of e2, T2.t, hv, l_0, l_1, l_2, l_3, l_4, l_5, l_6, l_7, l_8, l_9, l_10, l_12, l_20, l_23, l_24, l_25, l_32, l_48, l_60, l_100, l_200, l_255, l_900, n32_add, n32_mul, n32_inc, neg1, neg2, l_11, l_50, l_54, l_58, l_59, l_649, tg_pI, tg_pL, tg_pR, vr_pI, vr_pL, vl_pI, vl_pR, vi_pL, vi_pR, mN_pI, mN_pL, mN_pR, mU_pI, mU_pL, mU_pR, vi_self, n32_sub, Nat.add_sub_cancel, wF_of (q_answer c2.T _)]
        exact ⟨⟨ac, c2.tr (t := 0) (by decide) (by decide)⟩, (F3.out (fun a z => by omega)).trans (((Fr.refl (fun a => a = B) _).pI 6 _ rfl).out (fun a z => by omega)), Or.inl ⟨fun a h1 h2 => funext fun j => by rw [vi_ne (by omega), F3.vi (by omega)], rfl, rfl⟩⟩
  obtain ⟨v, m, h1, rfl, h2⟩ := key
  exact ⟨m, h1, h2⟩
def backA (A : Ab) (m : Int32) : Ab × Bool := match inO true (aMk A).length m with
  | some k => (match (aMk A)[k]? with
    | some lo => (setTr (setAc (setLo A lo) []) 0, true)
    | none => (setTr A 1, false))
  | none => (setTr A 1, false)
theorem c_back (h : Cls M B P P2 L L2 ac A) (m : Int32) : ∃ M', f_X8_back [.ref B, .int m] M = some (some (.int (b2i (backA A m).2)), M') ∧ CR M B P P2 L L2 A (backA A m).1 M' := by
  have hn := h.V.nmk3
  have hpl := h.T.pl
  have key : wF f_X8_back [.ref B, .int m] M (fun v M' => v = some (Value.int (b2i (backA A m).2)) ∧ CR M B P P2 L L2 A (backA A m).1 M') := by
    unfold f_X8_back b_X8_back
    simp (disch := omega) only [w_eK, w_eI, w_eL, w_eR, w_eT, w_b1, w_b2, w_b0, w_b0L, w_gI, w_gL, w_gN, w_gR, w_aI, w_aL, w_aR, w_aLen, w_tern, w_and, w_or, w_vN, vI, vJ, vA, vS, w_cFv, w_cFs, w_toI, w_toL, w_toV, w_nO, w_nA, eZ, cNot, s_skip, s_brk, s_cnt, s_retV, s_seq, s_if, s_set1, s_setL, s_inc, s_putI, s_putZ, s_putL, s_putR, s_upI, s_AI, s_AL, s_AR, s_UA, s_exp, s_ret, s_retZ, s_scope, s_unBrk, s_sw, s_sup, sSetI, sSetR, sRetI, sRetL, f_of, argE_n, argE_i, argE_r, argE_l, argE_a, sto_0, sto_s, sto_n0, sto_ns, isL_i, isL_r, isL_n, isL_a, isL_l, isL_0, rcv_r, rcv_a, List.getElem?_cons_zero, List.getElem?_cons_succ, List.getElem?_nil, List.set_cons_zero, List.set_cons_succ, List.take_succ_cons, List.take_zero, List.take_nil, List.length_cons, List.length_nil, List.nil_append, List.cons_append, Nat.reduceAdd, Nat.reduceSub, Nat.reduceLT, Nat.reduceEqDiff, Nat.reduceLeDiff, Nat.zero_add, Nat.lt_irrefl, Nat.succ_sub_one, and_true, true_and, and_false, false_and, not_false_eq_true, not_true_eq_false, Bool.false_eq_true, if_true, if_false, reduceIte, decide_true, decide_false, decide_eq_true_eq, Option.some.injEq, and_self, Nat.add_one_sub_one, Nat.lt_add_one, Nat.zero_lt_succ, Value.int.injEq, Value.ref.injEq, Value.long.injEq, exists_eq_left', exists_eq_left, Sum.inl.injEq, Sum.inr.injEq, l_0, l_1, l_2, l_3, l_4, l_5, l_6, l_7, l_8, l_9, l_10, l_12, l_20, l_23, l_24, l_25, l_32, l_48, l_60, l_100, l_200, l_255, l_900, n32_add, n32_mul, n32_inc, neg1, neg2, l_11, l_50, l_54, l_58, l_59, l_649, h.T.t, h.V.nmk]
    cases e : inO true (aMk A).length m with
    | none =>
      rw [show backA A m = (setTr A 1, false) by simp [backA, e]]
      have hno := inO_none e
      by_cases hz : zLt m = true
      · simp only [hz, w_eK, w_eI, w_eL, w_eR, w_eT, w_b1, w_b2, w_b0, w_b0L, w_gI, w_gL, w_gN, w_gR, w_aI, w_aL, w_aR, w_aLen, w_tern, w_and, w_or, w_vN, vI, vJ, vA, vS, w_cFv, w_cFs, w_toI, w_toL, w_toV, w_nO, w_nA, eZ, cNot, s_skip, s_brk, s_cnt, s_retV, s_seq, s_if, s_set1, s_setL, s_inc, s_putI, s_putZ, s_putL, s_putR, s_upI, s_AI, s_AL, s_AR, s_UA, s_exp, s_ret, s_retZ, s_scope, s_unBrk, s_sw, s_sup, sSetI, sSetR, sRetI, sRetL, f_of, argE_n, argE_i, argE_r, argE_l, argE_a, sto_0, sto_s, sto_n0, sto_ns, isL_i, isL_r, isL_n, isL_a, isL_l, isL_0, rcv_r, rcv_a, List.getElem?_cons_zero, List.getElem?_cons_succ, List.getElem?_nil, List.set_cons_zero, List.set_cons_succ, List.take_succ_cons, List.take_zero, List.take_nil, List.length_cons, List.length_nil, List.nil_append, List.cons_append, Nat.reduceAdd, Nat.reduceSub, Nat.reduceLT, Nat.reduceEqDiff, Nat.reduceLeDiff, Nat.zero_add, Nat.lt_irrefl, Nat.succ_sub_one, and_true, true_and, and_false, false_and, not_false_eq_true, not_true_eq_false, Bool.false_eq_true, if_true, if_false, reduceIte, decide_true, decide_false, decide_eq_true_eq, Option.some.injEq, and_self, Nat.add_one_sub_one, Nat.lt_add_one, Nat.zero_lt_succ, Value.int.injEq, Value.ref.injEq, Value.long.injEq, exists_eq_left', exists_eq_left, Sum.inl.injEq, Sum.inr.injEq, h.T.t, wF_of (q_denied h.T _)]
        exact ⟨rfl, rfl, CR.ro h (by decide) (by decide)⟩
      · have h2 : iGe m (n32 (aMk A).length) = true := by
          simp only [zLt, decide_eq_true_eq] at hz
          simp only [iGe, decide_eq_true_eq]
          exact Int32.not_lt.mp fun z => hno ⟨rfl, Int32.not_lt.mp hz, z⟩
        simp only [hz, h2, w_eK, w_eI, w_eL, w_eR, w_eT, w_b1, w_b2, w_b0, w_b0L, w_gI, w_gL, w_gN, w_gR, w_aI, w_aL, w_aR, w_aLen, w_tern, w_and, w_or, w_vN, vI, vJ, vA, vS, w_cFv, w_cFs, w_toI, w_toL, w_toV, w_nO, w_nA, eZ, cNot, s_skip, s_brk, s_cnt, s_retV, s_seq, s_if, s_set1, s_setL, s_inc, s_putI, s_putZ, s_putL, s_putR, s_upI, s_AI, s_AL, s_AR, s_UA, s_exp, s_ret, s_retZ, s_scope, s_unBrk, s_sw, s_sup, sSetI, sSetR, sRetI, sRetL, f_of, argE_n, argE_i, argE_r, argE_l, argE_a, sto_0, sto_s, sto_n0, sto_ns, isL_i, isL_r, isL_n, isL_a, isL_l, isL_0, rcv_r, rcv_a, List.getElem?_cons_zero, List.getElem?_cons_succ, List.getElem?_nil, List.set_cons_zero, List.set_cons_succ, List.take_succ_cons, List.take_zero, List.take_nil, List.length_cons, List.length_nil, List.nil_append, List.cons_append, Nat.reduceAdd, Nat.reduceSub, Nat.reduceLT, Nat.reduceEqDiff, Nat.reduceLeDiff, Nat.zero_add, Nat.lt_irrefl, Nat.succ_sub_one, and_true, true_and, and_false, false_and, not_false_eq_true, not_true_eq_false, Bool.false_eq_true, if_true, if_false, reduceIte, decide_true, decide_false, decide_eq_true_eq, Option.some.injEq, and_self, Nat.add_one_sub_one, Nat.lt_add_one, Nat.zero_lt_succ, Value.int.injEq, Value.ref.injEq, Value.long.injEq, exists_eq_left', exists_eq_left, Sum.inl.injEq, Sum.inr.injEq, h.T.t, wF_of (q_denied h.T _)]
        exact ⟨rfl, rfl, CR.ro h (by decide) (by decide)⟩
    | some k =>
      obtain ⟨-, hk, rfl⟩ := inO_some (by omega) e
      obtain ⟨lo, hlo⟩ : ∃ lo, (aMk A)[k]? = some lo := ⟨_, List.getElem?_eq_getElem hk⟩
      rw [show backA A (n32 k) = (setTr (setAc (setLo A lo) []) 0, true) by simp [backA, e, hlo]]
      obtain ⟨M2, e2, F2, g2⟩ := q_copyFrom h.T.T3 (h.V.mk k lo hlo) (by omega)
      have c2 := h.loom F2 g2
      have c3 : Cls (pI M2 B 8 (n32 0)) B P P2 L L2 ac (setAc (setLo A lo) []) := c2.nacs (l := []) (by decide) (fun i lo' hi => by simp at hi)
      have c4 := c3.best (a := B + 54) (k := 8) (x := n32 0) (by omega)
      have c5 := c4.tr (t := 0) (by decide) (by decide)
      simp (disch := omega) only [w_eK, w_eI, w_eL, w_eR, w_eT, w_b1, w_b2, w_b0, w_b0L, w_gI, w_gL, w_gN, w_gR, w_aI, w_aL, w_aR, w_aLen, w_tern, w_and, w_or, w_vN, vI, vJ, vA, vS, w_cFv, w_cFs, w_toI, w_toL, w_toV, w_nO, w_nA, eZ, cNot, s_skip, s_brk, s_cnt, s_retV, s_seq, s_if, s_set1, s_setL, s_inc, s_putI, s_putZ, s_putL, s_putR, s_upI, s_AI, s_AL, s_AR, s_UA, s_exp, s_ret, s_retZ, s_scope, s_unBrk, s_sw, s_sup, sSetI, sSetR, sRetI, sRetL, f_of, argE_n, argE_i, argE_r, argE_l, argE_a, sto_0, sto_s, sto_n0, sto_ns, isL_i, isL_r, isL_n, isL_a, isL_l, isL_0, rcv_r, rcv_a, List.getElem?_cons_zero, List.getElem?_cons_succ, List.getElem?_nil, List.set_cons_zero, List.set_cons_succ, List.take_succ_cons, List.take_zero, List.take_nil, List.length_cons, List.length_nil, List.nil_append, List.cons_append, Nat.reduceAdd, Nat.reduceSub, Nat.reduceLT, Nat.reduceEqDiff, Nat.reduceLeDiff, Nat.zero_add, Nat.lt_irrefl, Nat.succ_sub_one, and_true, true_and, and_false, false_and, not_false_eq_true, not_true_eq_false, Bool.false_eq_true, if_true, if_false, reduceIte, decide_true, decide_false, decide_eq_true_eq, Option.some.injEq, and_self, Nat.add_one_sub_one, Nat.lt_add_one, Nat.zero_lt_succ, Value.int.injEq, Value.ref.injEq, Value.long.injEq, exists_eq_left', exists_eq_left, Sum.inl.injEq, Sum.inr.injEq, n_iEq, n_iNe, n_iLt, n_iLe, n_iGt, n_iGe, n_zEq, n_zLt, n_zLe, n_zGt, n_zGe, n_inb, n32_clamp, show ¬ (aMk A).length ≤ k by omega, h.T.t, h.T.r4, h.T.T3.t, h.T.r9, h.T.t44, h.T.rm k (by omega), wF_of e2, c2.T.t, tg_pI, tg_pL, tg_pR, vr_pI, vr_pL, vl_pI, vl_pR, vi_pL, vi_pR, mN_pI, mN_pL, mN_pR, mU_pI, mU_pL, mU_pR, c2.T.r12, c2.S.t54, wF_of (q_forget c3.S), wF_of (q_granted c4.T)]
      refine ⟨by omega, rfl, rfl, ⟨ac, c5⟩, (Out.loom h.T F2).trans (((((Fr.refl (fun a => a = B ∨ a = B + 54) M2).pI 8 _ (Or.inl rfl)).pI 8 _ (Or.inr rfl)).pI 6 _ (Or.inl rfl)).out (fun a z => by omega)), Or.inr ?_⟩
      rw [vi_ne (by omega), vi_self]
  obtain ⟨v, m, h1, rfl, h2⟩ := key
  exact ⟨m, h1, h2⟩
end
