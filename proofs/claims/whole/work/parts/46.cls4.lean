/-! THE CLASS: keepAct, weave, rip, undo, mark, back -/
theorem vr_ne {M : qM} {a k b j : Nat} {x : Option Nat} (h : b ≠ a) : vr (pR M a k x) b j = vr M b j := by simp [vr_pR, h]
section
variable {M : qM} {B P P2 L L2 : Nat} {ac : Nat → Nat} {A : Ab}
theorem Cls.acl (h : Cls M B P P2 L L2 ac A) {i : Nat} {lo : Lo} (hi : (aAc A)[i]? = some lo) : i < 12 := by
  have := (List.getElem?_eq_some_iff.mp hi).1
  have := h.V.nac12
  omega
theorem Cls.mkl (h : Cls M B P P2 L L2 ac A) {i : Nat} {lo : Lo} (hi : (aMk A)[i]? = some lo) : i < 3 := by
  have := (List.getElem?_eq_some_iff.mp hi).1
  have := h.V.nmk3
  omega
theorem keepTail (h : Cls M B P P2 L L2 ac A) (hn : (aAc A).length < 12) : ∃ M2, f_X3_copyFrom [.ref (ac (aAc A).length), .ref L] M = some (none, M2) ∧ vi M2 B 8 = n32 (aAc A).length ∧ ClsT M2 B P P2 L L2 ac ∧ ScrT M2 B ∧ Cls (pI (pI M2 B 8 (n32 ((aAc A).length + 1))) (B + 54) 8 (n32 0)) B P P2 L L2 ac (setAc A (aAc A ++ [aLm A])) ∧ Out B (B + 140) M (pI (pI M2 B 8 (n32 ((aAc A).length + 1))) (B + 54) 8 (n32 0)) := by
  have hpl := h.T.pl
  have hai := h.T.ai hn
  obtain ⟨M2, e, F, g⟩ := q_copyFrom (h.T.Ta _ hn) h.V.L (by omega)
  have F2 : Fr (fun a => (ac (aAc A).length ≤ a ∧ a ≤ ac (aAc A).length + 4) ∨ a = B ∨ a = B + 54) M (pI (pI M2 B 8 (n32 ((aAc A).length + 1))) (B + 54) 8 (n32 0)) := by
    have F1 : Fr (fun a => (ac (aAc A).length ≤ a ∧ a ≤ ac (aAc A).length + 4) ∨ a = B ∨ a = B + 54) M M2 := F.mono (fun a z => Or.inl z)
    exact (F1.pI 8 _ (Or.inr (Or.inl rfl))).pI 8 _ (Or.inr (Or.inr rfl))
  have F3 : Fr (fun a => a = B ∨ a = B + 54) M2 (pI (pI M2 B 8 (n32 ((aAc A).length + 1))) (B + 54) 8 (n32 0)) := by
    have F1 : Fr (fun a => a = B ∨ a = B + 54) M2 M2 := Fr.refl _ _
    exact (F1.pI 8 _ (Or.inl rfl)).pI 8 _ (Or.inr rfl)
  have ev : ∀ j, j ≠ 8 → vi (pI (pI M2 B 8 (n32 ((aAc A).length + 1))) (B + 54) 8 (n32 0)) B j = vi M B j := fun j hj => by
    rw [vi_ne (by omega), vi_nk hj, F.vi (by omega)]
  refine ⟨M2, e, by rw [F.vi (by omega)]; exact h.V.nac, h.T.fr F, h.S.fr F, ⟨h.T.fr F2, h.S.fr F2, ⟨?_, ?_, h.V.trl, ?_, ?_, ?_, h.V.nmk3, ?_, h.V.tl9, fun i hi => ?_, ?_, fun e4 => ?_, h.V.P.fr F2 (fun a h1 h2 z => by omega), h.V.L.fr F2 (fun a h1 h2 z => by omega), fun i lo hi => ?_, fun i lo hi => ?_⟩⟩, F2.out (fun a z => by omega)⟩
  · rw [ev 5 (by decide)]; exact h.V.told
  · rw [ev 6 (by decide)]; exact h.V.tr
  · rw [vi_ne (by omega), vi_self]
    show n32 ((aAc A).length + 1) = n32 (aAc A ++ [aLm A]).length
    simp
  · show (aAc A ++ [aLm A]).length ≤ 12
    simp; omega
  · rw [ev 10 (by decide)]; exact h.V.nmk
  · rw [ev 1 (by decide)]; exact h.V.tl
  · rw [F2.vi (by omega)]; exact h.V.tp i hi
  · rw [F2.vi (by omega)]; exact h.V.ft
  · rw [F2.vi (by omega)]; exact h.V.pc e4
  · have hi : (aAc A ++ [aLm A])[i]? = some lo := hi
    by_cases hlt : i < (aAc A).length
    · rw [List.getElem?_append_left hlt] at hi
      have hj := h.T.aj (show i < 12 by omega) hn (by omega)
      have hai' := h.T.ai (show i < 12 by omega)
      exact (h.V.ac i lo hi).fr F2 (fun a h1 h2 z => by omega)
    · have hi2 : i = (aAc A).length := by
        have := (List.getElem?_eq_some_iff.mp hi).1
        simp at this
        omega
      subst hi2
      rw [List.getElem?_append_right (Nat.le_refl _)] at hi
      simp at hi
      subst hi
      exact g.fr F3 (fun a h1 h2 z => by omega)
  · have := h.mkl hi
    exact (h.V.mk i lo hi).fr F2 (fun a h1 h2 z => by omega)
/-- keepAct -/
theorem q_keepAct (h : Cls M B P P2 L L2 ac A) : ∃ M' ac', f_X8_keepAct [.ref B] M = some (none, M') ∧ Cls M' B P P2 L L2 ac' (setAc A (keepL (aAc A) (aLm A))) ∧ Out B (B + 140) M M' ∧ vi M' (B + 54) 8 = n32 0 := by
  have hpl := h.T.pl
  have hn12 := h.V.nac12
  have key : wF f_X8_keepAct [.ref B] M (fun v M' => v = none ∧ ∃ ac', Cls M' B P P2 L L2 ac' (setAc A (keepL (aAc A) (aLm A))) ∧ Out B (B + 140) M M' ∧ vi M' (B + 54) 8 = n32 0) := by
    unfold f_X8_keepAct b_X8_keepAct
    simp (disch := omega) only [w_eK, w_eI, w_eL, w_eR, w_eT, w_b1, w_b2, w_b0, w_b0L, w_gI, w_gL, w_gN, w_gR, w_aI, w_aL, w_aR, w_aLen, w_tern, w_and, w_or, w_vN, vI, vJ, vA, vS, w_cFv, w_cFs, w_toI, w_toL, w_toV, w_nO, w_nA, eZ, cNot, s_skip, s_brk, s_cnt, s_retV, s_seq, s_if, s_set1, s_setL, s_inc, s_putI, s_putZ, s_putL, s_putR, s_upI, s_AI, s_AL, s_AR, s_UA, s_exp, s_ret, s_retZ, s_scope, s_unBrk, s_sw, s_sup, sSetI, sSetR, sRetI, sRetL, f_of, argE_n, argE_i, argE_r, argE_l, argE_a, sto_0, sto_s, sto_n0, sto_ns, isL_i, isL_r, isL_n, isL_a, isL_l, isL_0, rcv_r, rcv_a, List.getElem?_cons_zero, List.getElem?_cons_succ, List.getElem?_nil, List.set_cons_zero, List.set_cons_succ, List.take_succ_cons, List.take_zero, List.take_nil, List.length_cons, List.length_nil, List.nil_append, List.cons_append, Nat.reduceAdd, Nat.reduceSub, Nat.reduceLT, Nat.reduceEqDiff, Nat.reduceLeDiff, Nat.zero_add, Nat.lt_irrefl, Nat.succ_sub_one, and_true, true_and, and_false, false_and, not_false_eq_true, not_true_eq_false, Bool.false_eq_true, if_true, if_false, reduceIte, decide_true, decide_false, decide_eq_true_eq, Option.some.injEq, and_self, Nat.add_one_sub_one, Nat.lt_add_one, Nat.zero_lt_succ, Value.int.injEq, Value.ref.injEq, Value.long.injEq, exists_eq_left', exists_eq_left, Sum.inl.injEq, Sum.inr.injEq, l_0, l_1, l_2, l_3, l_4, l_5, l_6, l_7, l_8, l_9, l_10, l_12, l_20, l_23, l_24, l_25, l_32, l_48, l_60, l_100, l_200, l_255, l_900, n32_add, n32_mul, n32_inc, neg1, neg2, l_11, l_50, l_54, l_58, l_59, l_649, h.T.t, h.V.nac, n_iEq, n_iNe, n_iLt, n_iLe, n_iGt, n_iGe, n_zEq, n_zLt, n_zLe, n_zGt, n_zGe, n_inb, n32_clamp]
    by_cases e12 : 12 ≤ (aAc A).length
    · have en : (aAc A).length = 12 := by omega
      have kl : keepL (aAc A) (aLm A) = (aAc A).tail ++ [aLm A] := by unfold keepL; rw [if_pos e12]
      simp (disch := omega) only [e12, w_eK, w_eI, w_eL, w_eR, w_eT, w_b1, w_b2, w_b0, w_b0L, w_gI, w_gL, w_gN, w_gR, w_aI, w_aL, w_aR, w_aLen, w_tern, w_and, w_or, w_vN, vI, vJ, vA, vS, w_cFv, w_cFs, w_toI, w_toL, w_toV, w_nO, w_nA, eZ, cNot, s_skip, s_brk, s_cnt, s_retV, s_seq, s_if, s_set1, s_setL, s_inc, s_putI, s_putZ, s_putL, s_putR, s_upI, s_AI, s_AL, s_AR, s_UA, s_exp, s_ret, s_retZ, s_scope, s_unBrk, s_sw, s_sup, sSetI, sSetR, sRetI, sRetL, f_of, argE_n, argE_i, argE_r, argE_l, argE_a, sto_0, sto_s, sto_n0, sto_ns, isL_i, isL_r, isL_n, isL_a, isL_l, isL_0, rcv_r, rcv_a, List.getElem?_cons_zero, List.getElem?_cons_succ, List.getElem?_nil, List.set_cons_zero, List.set_cons_succ, List.take_succ_cons, List.take_zero, List.take_nil, List.length_cons, List.length_nil, List.nil_append, List.cons_append, Nat.reduceAdd, Nat.reduceSub, Nat.reduceLT, Nat.reduceEqDiff, Nat.reduceLeDiff, Nat.zero_add, Nat.lt_irrefl, Nat.succ_sub_one, and_true, true_and, and_false, false_and, not_false_eq_true, not_true_eq_false, Bool.false_eq_true, if_true, if_false, reduceIte, decide_true, decide_false, decide_eq_true_eq, Option.some.injEq, and_self, Nat.add_one_sub_one, Nat.lt_add_one, Nat.zero_lt_succ, Value.int.injEq, Value.ref.injEq, Value.long.injEq, exists_eq_left', exists_eq_left, Sum.inl.injEq, Sum.inr.injEq, h.T.t, h.T.r7, h.T.t43, n_iEq, n_iNe, n_iLt, n_iLe, n_iGt, n_iGe, n_zEq, n_zLt, n_zLe, n_zGt, n_zGe, n_inb, n32_clamp, h.T.ra 0 (by decide)]
      refine s_up (fun j e m => e = [.ref B, .ref (ac 0), .int (n32 (j + 1))] ∧ FrR (B + 43) M m ∧ ∀ k, k < 12 → vr m (B + 43) k = some (if k < j then ac (k + 1) else ac k)) 11 ⟨rfl, FrR.refl _ _, fun k hk => by rw [h.T.ra k hk]; simp⟩ ?_ ?_
      · rintro j e m hj ⟨rfl, f, hv⟩
        have e0 := f.2.2.2.2 B (by omega)
        have hgv : vr m (B + 43) (j + 1) = some (ac (j + 1)) := by rw [hv _ (by omega), if_neg (by omega)]
        simp (disch := omega) only [w_eK, w_eI, w_eL, w_eR, w_eT, w_b1, w_b2, w_b0, w_b0L, w_gI, w_gL, w_gN, w_gR, w_aI, w_aL, w_aR, w_aLen, w_tern, w_and, w_or, w_vN, vI, vJ, vA, vS, w_cFv, w_cFs, w_toI, w_toL, w_toV, w_nO, w_nA, eZ, cNot, s_skip, s_brk, s_cnt, s_retV, s_seq, s_if, s_set1, s_setL, s_inc, s_putI, s_putZ, s_putL, s_putR, s_upI, s_AI, s_AL, s_AR, s_UA, s_exp, s_ret, s_retZ, s_scope, s_unBrk, s_sw, s_sup, sSetI, sSetR, sRetI, sRetL, f_of, argE_n, argE_i, argE_r, argE_l, argE_a, sto_0, sto_s, sto_n0, sto_ns, isL_i, isL_r, isL_n, isL_a, isL_l, isL_0, rcv_r, rcv_a, List.getElem?_cons_zero, List.getElem?_cons_succ, List.getElem?_nil, List.set_cons_zero, List.set_cons_succ, List.take_succ_cons, List.take_zero, List.take_nil, List.length_cons, List.length_nil, List.nil_append, List.cons_append, Nat.reduceAdd, Nat.reduceSub, Nat.reduceLT, Nat.reduceEqDiff, Nat.reduceLeDiff, Nat.zero_add, Nat.lt_irrefl, Nat.succ_sub_one, and_true, true_and, and_false, false_and, not_false_eq_true, not_true_eq_false, Bool.false_eq_true, if_true, if_false, reduceIte, decide_true, decide_false, decide_eq_true_eq, Option.some.injEq, and_self, Nat.add_one_sub_one, Nat.lt_add_one, Nat.zero_lt_succ, Value.int.injEq, Value.ref.injEq, Value.long.injEq, exists_eq_left', exists_eq_left, Sum.inl.injEq, Sum.inr.injEq, l_0, l_1, l_2, l_3, l_4, l_5, l_6, l_7, l_8, l_9, l_10, l_12, l_20, l_23, l_24, l_25, l_32, l_48, l_60, l_100, l_200, l_255, l_900, n32_add, n32_mul, n32_inc, neg1, neg2, l_11, l_50, l_54, l_58, l_59, l_649, n_iEq, n_iNe, n_iLt, n_iLe, n_iGt, n_iGe, n_zEq, n_zLt, n_zLe, n_zGt, n_zGe, n_inb, n32_clamp, show j + 1 < 12 by omega, f.2.1, e0, h.T.t, h.T.r7, h.T.t43, hgv, n32_sub, (h.T.Ta (j + 1) (by omega)).t, n32_inc, Nat.add_sub_cancel]
        refine ⟨by omega, f.pR _ _, fun k hk => ?_⟩
        rw [vr_pR]
        by_cases ek : k = j
        · subst ek
          rw [if_pos ⟨rfl, rfl⟩, if_pos (by omega)]
        · rw [if_neg (fun z => ek z.2), hv k hk]
          by_cases ek2 : k < j
          · rw [if_pos ek2, if_pos (by omega)]
          · rw [if_neg ek2, if_neg (by omega)]
      · rintro e m ⟨rfl, f, hv⟩
        have e0 := f.2.2.2.2 B (by omega)
        have f1 := f.pR 11 (some (ac 0))
        have hv1 : ∀ k, k < 12 → vr (pR m (B + 43) 11 (some (ac 0))) (B + 43) k = some (if k < 11 then ac (k + 1) else ac 0) := by
          intro k hk
          rw [vr_pR]
          by_cases ek : k = 11
          · subst ek; rw [if_pos ⟨rfl, rfl⟩, if_neg (by omega)]
          · rw [if_neg (fun z => ek z.2), hv k hk, if_pos (by omega), if_pos (by omega)]
        have T1 := h.T.turn f1 hv1
        have S1 := h.S.turn f1
        have f2 : Fr (fun a => a = B) (pR m (B + 43) 11 (some (ac 0))) (pI (pR m (B + 43) 11 (some (ac 0))) B 8 (n32 11)) := (Fr.refl _ _).pI _ _ rfl
        have hvi : vi (pR m (B + 43) 11 (some (ac 0))) = vi M := f1.2.2.1
        have keep : ∀ {q : Nat} {K : Nat} {lo : Lo}, LoomT (pR m (B + 43) 11 (some (ac 0))) q → LoomAt M q K lo → LoomAt (pR m (B + 43) 11 (some (ac 0))) q K lo := fun ht hl => ⟨ht, by have := hl.V; unfold LoomV at this ⊢; rw [hvi]; exact this, hl.O⟩
        have h1 : Cls (pI (pR m (B + 43) 11 (some (ac 0))) B 8 (n32 11)) B P P2 L L2 (fun k => if k < 11 then ac (k + 1) else ac 0) (setAc A (aAc A).tail) := by
          refine ⟨T1.fr f2, S1.fr f2, ⟨?_, ?_, h.V.trl, ?_, ?_, ?_, h.V.nmk3, ?_, h.V.tl9, fun i hi => ?_, ?_, fun e4 => ?_, ?_, ?_, fun i lo hi => ?_, fun i lo hi => ?_⟩⟩
          · rw [vi_nk (by decide), hvi]; exact h.V.told
          · rw [vi_nk (by decide), hvi]; exact h.V.tr
          · rw [vi_self]
            show n32 11 = n32 (aAc A).tail.length
            rw [List.length_tail, en]
          · show (aAc A).tail.length ≤ 12
            rw [List.length_tail]; omega
          · rw [vi_nk (by decide), hvi]; exact h.V.nmk
          · rw [vi_nk (by decide), hvi]; exact h.V.tl
          · rw [vi_ne (by omega), hvi]; exact h.V.tp i hi
          · rw [vi_ne (by omega), hvi]; exact h.V.ft
          · rw [vi_ne (by omega), hvi]; exact h.V.pc e4
          · exact PlanAt.fr ⟨T1.T1, by have := h.V.P.V; unfold PlanV at this ⊢; rw [hvi]; exact this, h.V.P.O⟩ f2 (fun a h1 h2 z => by omega)
          · exact (keep T1.T3 h.V.L).fr f2 (fun a h1 h2 z => by omega)
          · have hi : (aAc A).tail[i]? = some lo := hi
            rw [List.getElem?_tail] at hi
            have hl := h.acl hi
            have hlt : i < 11 := by omega
            have hb := h.T.ai (show i + 1 < 12 by omega)
            have := (keep (q := ac (i + 1)) (by have := T1.Ta i (by omega); rw [if_pos hlt] at this; exact this) (h.V.ac (i + 1) lo hi)).fr f2 (fun a h1 h2 z => by omega)
            dsimp only
            rw [if_pos hlt]
            exact this
          · have := h.mkl hi
            exact (keep (T1.Tm i this) (h.V.mk i lo hi)).fr f2 (fun a h1 h2 z => by omega)
        have hlen : (aAc (setAc A (aAc A).tail)).length = 11 := by
          show (aAc A).tail.length = 11
          rw [List.length_tail, en]
        obtain ⟨M2, k1, k2, k3, k4, k5, k6⟩ := keepTail h1 (by rw [hlen]; decide)
        rw [hlen] at k1 k2 k5 k6
        rw [if_neg (by decide)] at k1
        have o1 : Out B (B + 140) M (pI (pR m (B + 43) 11 (some (ac 0))) B 8 (n32 11)) := (f1.out (by omega)).trans (f2.out (fun a z => by omega))
        have tac : (tg (pR m (B + 43) 11 (some (ac 0))) (ac 0)).1 = 4 := by rw [f1.2.1, (h.T.Ta 0 (by decide)).t]
        have e43 : vr (pR m (B + 43) 11 (some (ac 0))) (B + 43) 11 = some (ac 0) := by rw [vr_pR, if_pos ⟨rfl, rfl⟩]
        simp (disch := omega) only [w_eK, w_eI, w_eL, w_eR, w_eT, w_b1, w_b2, w_b0, w_b0L, w_gI, w_gL, w_gN, w_gR, w_aI, w_aL, w_aR, w_aLen, w_tern, w_and, w_or, w_vN, vI, vJ, vA, vS, w_cFv, w_cFs, w_toI, w_toL, w_toV, w_nO, w_nA, eZ, cNot, s_skip, s_brk, s_cnt, s_retV, s_seq, s_if, s_set1, s_setL, s_inc, s_putI, s_putZ, s_putL, s_putR, s_upI, s_AI, s_AL, s_AR, s_UA, s_exp, s_ret, s_retZ, s_scope, s_unBrk, s_sw, s_sup, sSetI, sSetR, sRetI, sRetL, f_of, argE_n, argE_i, argE_r, argE_l, argE_a, sto_0, sto_s, sto_n0, sto_ns, isL_i, isL_r, isL_n, isL_a, isL_l, isL_0, rcv_r, rcv_a, List.getElem?_cons_zero, List.getElem?_cons_succ, List.getElem?_nil, List.set_cons_zero, List.set_cons_succ, List.take_succ_cons, List.take_zero, List.take_nil, List.length_cons, List.length_nil, List.nil_append, List.cons_append, Nat.reduceAdd, Nat.reduceSub, Nat.reduceLT, Nat.reduceEqDiff, Nat.reduceLeDiff, Nat.zero_add, Nat.lt_irrefl, Nat.succ_sub_one, and_true, true_and, and_false, false_and, not_false_eq_true, not_true_eq_false, Bool.false_eq_true, if_true, if_false, reduceIte, decide_true, decide_false, decide_eq_true_eq, Option.some.injEq, and_self, Nat.add_one_sub_one, Nat.lt_add_one, Nat.zero_lt_succ, Value.int.injEq, Value.ref.injEq, Value.long.injEq, exists_eq_left', exists_eq_left, Sum.inl.injEq, Sum.inr.injEq, l_0, l_1, l_2, l_3, l_4, l_5, l_6, l_7, l_8, l_9, l_10, l_12, l_20, l_23, l_24, l_25, l_32, l_48, l_60, l_100, l_200, l_255, l_900, n32_add, n32_mul, n32_inc, neg1, neg2, l_11, l_50, l_54, l_58, l_59, l_649, n_iEq, n_iNe, n_iLt, n_iLe, n_iGt, n_iGe, n_zEq, n_zLt, n_zLe, n_zGt, n_zGe, n_inb, n32_clamp, f.2.1, e0, h.T.t, h.T.r7, h.T.t43, (h.T.Ta 0 (by decide)).t, tg_pI, tg_pL, tg_pR, vr_pI, vr_pL, vl_pI, vl_pR, vi_pL, vi_pR, mN_pI, mN_pL, mN_pR, mU_pI, mU_pL, mU_pR, vr_ne, vi_self, e43, h.T.r4, wF_of k1, k2, k3.t, k3.r12, k4.t54, wF_of (q_forget (k4.fr ((Fr.refl (fun a => a = B) M2).pI 8 (n32 (11 + 1)) rfl)))]
        exact ⟨_, by rw [kl]; exact k5, o1.trans k6⟩
    · have hlt : (aAc A).length < 12 := by omega
      have kl : keepL (aAc A) (aLm A) = aAc A ++ [aLm A] := by unfold keepL; rw [if_neg e12]
      obtain ⟨M2, k1, k2, k3, k4, k5, k6⟩ := keepTail h hlt
      simp (disch := omega) only [e12, w_eK, w_eI, w_eL, w_eR, w_eT, w_b1, w_b2, w_b0, w_b0L, w_gI, w_gL, w_gN, w_gR, w_aI, w_aL, w_aR, w_aLen, w_tern, w_and, w_or, w_vN, vI, vJ, vA, vS, w_cFv, w_cFs, w_toI, w_toL, w_toV, w_nO, w_nA, eZ, cNot, s_skip, s_brk, s_cnt, s_retV, s_seq, s_if, s_set1, s_setL, s_inc, s_putI, s_putZ, s_putL, s_putR, s_upI, s_AI, s_AL, s_AR, s_UA, s_exp, s_ret, s_retZ, s_scope, s_unBrk, s_sw, s_sup, sSetI, sSetR, sRetI, sRetL, f_of, argE_n, argE_i, argE_r, argE_l, argE_a, sto_0, sto_s, sto_n0, sto_ns, isL_i, isL_r, isL_n, isL_a, isL_l, isL_0, rcv_r, rcv_a, List.getElem?_cons_zero, List.getElem?_cons_succ, List.getElem?_nil, List.set_cons_zero, List.set_cons_succ, List.take_succ_cons, List.take_zero, List.take_nil, List.length_cons, List.length_nil, List.nil_append, List.cons_append, Nat.reduceAdd, Nat.reduceSub, Nat.reduceLT, Nat.reduceEqDiff, Nat.reduceLeDiff, Nat.zero_add, Nat.lt_irrefl, Nat.succ_sub_one, and_true, true_and, and_false, false_and, not_false_eq_true, not_true_eq_false, Bool.false_eq_true, if_true, if_false, reduceIte, decide_true, decide_false, decide_eq_true_eq, Option.some.injEq, and_self, Nat.add_one_sub_one, Nat.lt_add_one, Nat.zero_lt_succ, Value.int.injEq, Value.ref.injEq, Value.long.injEq, exists_eq_left', exists_eq_left, Sum.inl.injEq, Sum.inr.injEq, l_0, l_1, l_2, l_3, l_4, l_5, l_6, l_7, l_8, l_9, l_10, l_12, l_20, l_23, l_24, l_25, l_32, l_48, l_60, l_100, l_200, l_255, l_900, n32_add, n32_mul, n32_inc, neg1, neg2, l_11, l_50, l_54, l_58, l_59, l_649, n_iEq, n_iNe, n_iLt, n_iLe, n_iGt, n_iGe, n_zEq, n_zLt, n_zLe, n_zGt, n_zGe, n_inb, n32_clamp, h.T.t, h.T.r7, h.T.t43, h.T.ra _ hlt, h.V.nac, (h.T.Ta _ hlt).t, h.T.r4, wF_of k1, k2, k3.t, tg_pI, tg_pL, tg_pR, vr_pI, vr_pL, vl_pI, vl_pR, vi_pL, vi_pR, mN_pI, mN_pL, mN_pR, mU_pI, mU_pL, mU_pR, k3.r12, k4.t54, wF_of (q_forget (k4.fr ((Fr.refl (fun a => a = B) M2).pI 8 (n32 ((aAc A).length + 1)) rfl))), hlt]
      exact ⟨ac, by rw [kl]; exact k5, k6, vi_self _ _ _ _⟩
  obtain ⟨v, m, h1, rfl, ac', h2⟩ := key
  exact ⟨m, ac', h1, h2⟩
/-- the loom's cells change, nothing else of the state -/
theorem Cls.loom {M' : qM} {lo' : Lo} (h : Cls M B P P2 L L2 ac A) (F : Fr (fun a => L ≤ a ∧ a ≤ L + 4) M M') (g : LoomAt M' L (pK (aPn A)) lo') : Cls M' B P P2 L L2 ac (setLo A lo') := by
  have hpl := h.T.pl
  refine ⟨h.T.fr F, h.S.fr F, ⟨?_, ?_, h.V.trl, ?_, h.V.nac12, ?_, h.V.nmk3, ?_, h.V.tl9, fun i hi => ?_, ?_, fun e4 => ?_, h.V.P.fr F (fun a h1 h2 z => by omega), g, fun i lo hi => ?_, fun i lo hi => ?_⟩⟩
  · rw [F.vi (by omega)]; exact h.V.told
  · rw [F.vi (by omega)]; exact h.V.tr
  · rw [F.vi (by omega)]; exact h.V.nac
  · rw [F.vi (by omega)]; exact h.V.nmk
  · rw [F.vi (by omega)]; exact h.V.tl
  · rw [F.vi (by omega)]; exact h.V.tp i hi
  · rw [F.vi (by omega)]; exact h.V.ft
  · rw [F.vi (by omega)]; exact h.V.pc e4
  · have := h.T.ai (h.acl hi)
    exact (h.V.ac i lo hi).fr F (fun a h1 h2 z => by omega)
  · have := h.mkl hi
    exact (h.V.mk i lo hi).fr F (fun a h1 h2 z => by omega)
theorem Cls.hd (h : Cls M B P P2 L L2 ac A) : P + 12 < L ∨ L + 4 < P := by
  have := h.T.pl
  omega
theorem Out.loom {M M' : qM} (h : ClsT M B P P2 L L2 ac) (F : Fr (fun a => L ≤ a ∧ a ≤ L + 4) M M') : Out B (B + 140) M M' := F.out (fun a z => by have := h.pl; omega)
def wv (A : Ab) (s r : Int32) : Ab × Bool := match inO (aTd A) 2 s, inO (aTd A) (pK (aPn A)) r with
  | some k, some q => if hind (aPn A) (aLm A) k q = 0 then (setTr (setLo (setAc A (keepL (aAc A) (aLm A))) (lAdd (aPn A) (aLm A) k q)) 0, true) else (setTr A (hind (aPn A) (aLm A) k q), false)
  | _, _ => (setTr A 1, false)
theorem hind_ne4 (p : Pl) (lo : Lo) (s r : Nat) : hind p lo s r ≠ 4 := by
  unfold hind
  split
  · decide
  · split
    · decide
    · split <;> decide
theorem hind_0 {p : Pl} {lo : Lo} {s r : Nat} (h : hind p lo s r = 0) : lC lo s < 24 ∧ folO p s (lastO lo s 0) r = true ∧ pTk p r ≤ lS lo s (pCol p r) := by
  unfold hind at h
  split at h
  · cases h
  · rename_i h1
    split at h
    · cases h
    · rename_i h2
      split at h
      · cases h
      · rename_i h3
        exact ⟨by omega, by simpa using h2, by omega⟩
theorem c_weave (h : Cls M B P P2 L L2 ac A) (s r : Int32) : ∃ M', f_X8_weave [.ref B, .int s, .int r] M = some (some (.int (b2i (wv A s r).2)), M') ∧ CR M B P P2 L L2 A (wv A s r).1 M' := by
  have hk := h.V.P.O.kinds
  have key : wF f_X8_weave [.ref B, .int s, .int r] M (fun v M' => v = some (Value.int (b2i (wv A s r).2)) ∧ CR M B P P2 L L2 A (wv A s r).1 M') := by
    unfold f_X8_weave b_X8_weave
    simp only [w_eK, w_eI, w_eL, w_eR, w_eT, w_b1, w_b2, w_b0, w_b0L, w_gI, w_gL, w_gN, w_gR, w_aI, w_aL, w_aR, w_aLen, w_tern, w_and, w_or, w_vN, vI, vJ, vA, vS, w_cFv, w_cFs, w_toI, w_toL, w_toV, w_nO, w_nA, eZ, cNot, s_skip, s_brk, s_cnt, s_retV, s_seq, s_if, s_set1, s_setL, s_inc, s_putI, s_putZ, s_putL, s_putR, s_upI, s_AI, s_AL, s_AR, s_UA, s_exp, s_ret, s_retZ, s_scope, s_unBrk, s_sw, s_sup, sSetI, sSetR, sRetI, sRetL, f_of, argE_n, argE_i, argE_r, argE_l, argE_a, sto_0, sto_s, sto_n0, sto_ns, isL_i, isL_r, isL_n, isL_a, isL_l, isL_0, rcv_r, rcv_a, List.getElem?_cons_zero, List.getElem?_cons_succ, List.getElem?_nil, List.set_cons_zero, List.set_cons_succ, List.take_succ_cons, List.take_zero, List.take_nil, List.length_cons, List.length_nil, List.nil_append, List.cons_append, Nat.reduceAdd, Nat.reduceSub, Nat.reduceLT, Nat.reduceEqDiff, Nat.reduceLeDiff, Nat.zero_add, Nat.lt_irrefl, Nat.succ_sub_one, and_true, true_and, and_false, false_and, not_false_eq_true, not_true_eq_false, Bool.false_eq_true, if_true, if_false, reduceIte, decide_true, decide_false, decide_eq_true_eq, Option.some.injEq, and_self, Nat.add_one_sub_one, Nat.lt_add_one, Nat.zero_lt_succ, Value.int.injEq, Value.ref.injEq, Value.long.injEq, exists_eq_left', exists_eq_left, Sum.inl.injEq, Sum.inr.injEq, h.T.t, wF_of (q_isSide h s), wF_of (q_isKind h r), i2z_b2i]
    cases e : inO (aTd A) 2 s with
    | none =>
      rw [show wv A s r = (setTr A 1, false) by simp [wv, e]]
      simp only [w_eK, w_eI, w_eL, w_eR, w_eT, w_b1, w_b2, w_b0, w_b0L, w_gI, w_gL, w_gN, w_gR, w_aI, w_aL, w_aR, w_aLen, w_tern, w_and, w_or, w_vN, vI, vJ, vA, vS, w_cFv, w_cFs, w_toI, w_toL, w_toV, w_nO, w_nA, eZ, cNot, s_skip, s_brk, s_cnt, s_retV, s_seq, s_if, s_set1, s_setL, s_inc, s_putI, s_putZ, s_putL, s_putR, s_upI, s_AI, s_AL, s_AR, s_UA, s_exp, s_ret, s_retZ, s_scope, s_unBrk, s_sw, s_sup, sSetI, sSetR, sRetI, sRetL, f_of, argE_n, argE_i, argE_r, argE_l, argE_a, sto_0, sto_s, sto_n0, sto_ns, isL_i, isL_r, isL_n, isL_a, isL_l, isL_0, rcv_r, rcv_a, List.getElem?_cons_zero, List.getElem?_cons_succ, List.getElem?_nil, List.set_cons_zero, List.set_cons_succ, List.take_succ_cons, List.take_zero, List.take_nil, List.length_cons, List.length_nil, List.nil_append, List.cons_append, Nat.reduceAdd, Nat.reduceSub, Nat.reduceLT, Nat.reduceEqDiff, Nat.reduceLeDiff, Nat.zero_add, Nat.lt_irrefl, Nat.succ_sub_one, and_true, true_and, and_false, false_and, not_false_eq_true, not_true_eq_false, Bool.false_eq_true, if_true, if_false, reduceIte, decide_true, decide_false, decide_eq_true_eq, Option.some.injEq, and_self, Nat.add_one_sub_one, Nat.lt_add_one, Nat.zero_lt_succ, Value.int.injEq, Value.ref.injEq, Value.long.injEq, exists_eq_left', exists_eq_left, Sum.inl.injEq, Sum.inr.injEq, l_0, l_1, l_2, l_3, l_4, l_5, l_6, l_7, l_8, l_9, l_10, l_12, l_20, l_23, l_24, l_25, l_32, l_48, l_60, l_100, l_200, l_255, l_900, n32_add, n32_mul, n32_inc, neg1, neg2, l_11, l_50, l_54, l_58, l_59, l_649, Option.isSome_none, Bool.not_false, h.T.t, wF_of (q_denied h.T _)]
      exact ⟨rfl, rfl, CR.ro h (by decide) (by decide)⟩
    | some k =>
      obtain ⟨e1, e2, rfl⟩ := inO_some (by decide) e
      simp only [w_eK, w_eI, w_eL, w_eR, w_eT, w_b1, w_b2, w_b0, w_b0L, w_gI, w_gL, w_gN, w_gR, w_aI, w_aL, w_aR, w_aLen, w_tern, w_and, w_or, w_vN, vI, vJ, vA, vS, w_cFv, w_cFs, w_toI, w_toL, w_toV, w_nO, w_nA, eZ, cNot, s_skip, s_brk, s_cnt, s_retV, s_seq, s_if, s_set1, s_setL, s_inc, s_putI, s_putZ, s_putL, s_putR, s_upI, s_AI, s_AL, s_AR, s_UA, s_exp, s_ret, s_retZ, s_scope, s_unBrk, s_sw, s_sup, sSetI, sSetR, sRetI, sRetL, f_of, argE_n, argE_i, argE_r, argE_l, argE_a, sto_0, sto_s, sto_n0, sto_ns, isL_i, isL_r, isL_n, isL_a, isL_l, isL_0, rcv_r, rcv_a, List.getElem?_cons_zero, List.getElem?_cons_succ, List.getElem?_nil, List.set_cons_zero, List.set_cons_succ, List.take_succ_cons, List.take_zero, List.take_nil, List.length_cons, List.length_nil, List.nil_append, List.cons_append, Nat.reduceAdd, Nat.reduceSub, Nat.reduceLT, Nat.reduceEqDiff, Nat.reduceLeDiff, Nat.zero_add, Nat.lt_irrefl, Nat.succ_sub_one, and_true, true_and, and_false, false_and, not_false_eq_true, not_true_eq_false, Bool.false_eq_true, if_true, if_false, reduceIte, decide_true, decide_false, decide_eq_true_eq, Option.some.injEq, and_self, Nat.add_one_sub_one, Nat.lt_add_one, Nat.zero_lt_succ, Value.int.injEq, Value.ref.injEq, Value.long.injEq, exists_eq_left', exists_eq_left, Sum.inl.injEq, Sum.inr.injEq, Option.isSome_some, Bool.not_true]
      cases er : inO (aTd A) (pK (aPn A)) r with
      | none =>
        rw [show wv A (n32 k) r = (setTr A 1, false) by simp [wv, er]]
        simp only [w_eK, w_eI, w_eL, w_eR, w_eT, w_b1, w_b2, w_b0, w_b0L, w_gI, w_gL, w_gN, w_gR, w_aI, w_aL, w_aR, w_aLen, w_tern, w_and, w_or, w_vN, vI, vJ, vA, vS, w_cFv, w_cFs, w_toI, w_toL, w_toV, w_nO, w_nA, eZ, cNot, s_skip, s_brk, s_cnt, s_retV, s_seq, s_if, s_set1, s_setL, s_inc, s_putI, s_putZ, s_putL, s_putR, s_upI, s_AI, s_AL, s_AR, s_UA, s_exp, s_ret, s_retZ, s_scope, s_unBrk, s_sw, s_sup, sSetI, sSetR, sRetI, sRetL, f_of, argE_n, argE_i, argE_r, argE_l, argE_a, sto_0, sto_s, sto_n0, sto_ns, isL_i, isL_r, isL_n, isL_a, isL_l, isL_0, rcv_r, rcv_a, List.getElem?_cons_zero, List.getElem?_cons_succ, List.getElem?_nil, List.set_cons_zero, List.set_cons_succ, List.take_succ_cons, List.take_zero, List.take_nil, List.length_cons, List.length_nil, List.nil_append, List.cons_append, Nat.reduceAdd, Nat.reduceSub, Nat.reduceLT, Nat.reduceEqDiff, Nat.reduceLeDiff, Nat.zero_add, Nat.lt_irrefl, Nat.succ_sub_one, and_true, true_and, and_false, false_and, not_false_eq_true, not_true_eq_false, Bool.false_eq_true, if_true, if_false, reduceIte, decide_true, decide_false, decide_eq_true_eq, Option.some.injEq, and_self, Nat.add_one_sub_one, Nat.lt_add_one, Nat.zero_lt_succ, Value.int.injEq, Value.ref.injEq, Value.long.injEq, exists_eq_left', exists_eq_left, Sum.inl.injEq, Sum.inr.injEq, l_0, l_1, l_2, l_3, l_4, l_5, l_6, l_7, l_8, l_9, l_10, l_12, l_20, l_23, l_24, l_25, l_32, l_48, l_60, l_100, l_200, l_255, l_900, n32_add, n32_mul, n32_inc, neg1, neg2, l_11, l_50, l_54, l_58, l_59, l_649, Option.isSome_none, Bool.not_false, h.T.t, wF_of (q_denied h.T _)]
        exact ⟨rfl, rfl, CR.ro h (by decide) (by decide)⟩
      | some q =>
        obtain ⟨-, hq, rfl⟩ := inO_some (by omega) er
        have hl := hind_le (aPn A) (aLm A) k q
        simp only [w_eK, w_eI, w_eL, w_eR, w_eT, w_b1, w_b2, w_b0, w_b0L, w_gI, w_gL, w_gN, w_gR, w_aI, w_aL, w_aR, w_aLen, w_tern, w_and, w_or, w_vN, vI, vJ, vA, vS, w_cFv, w_cFs, w_toI, w_toL, w_toV, w_nO, w_nA, eZ, cNot, s_skip, s_brk, s_cnt, s_retV, s_seq, s_if, s_set1, s_setL, s_inc, s_putI, s_putZ, s_putL, s_putR, s_upI, s_AI, s_AL, s_AR, s_UA, s_exp, s_ret, s_retZ, s_scope, s_unBrk, s_sw, s_sup, sSetI, sSetR, sRetI, sRetL, f_of, argE_n, argE_i, argE_r, argE_l, argE_a, sto_0, sto_s, sto_n0, sto_ns, isL_i, isL_r, isL_n, isL_a, isL_l, isL_0, rcv_r, rcv_a, List.getElem?_cons_zero, List.getElem?_cons_succ, List.getElem?_nil, List.set_cons_zero, List.set_cons_succ, List.take_succ_cons, List.take_zero, List.take_nil, List.length_cons, List.length_nil, List.nil_append, List.cons_append, Nat.reduceAdd, Nat.reduceSub, Nat.reduceLT, Nat.reduceEqDiff, Nat.reduceLeDiff, Nat.zero_add, Nat.lt_irrefl, Nat.succ_sub_one, and_true, true_and, and_false, false_and, not_false_eq_true, not_true_eq_false, Bool.false_eq_true, if_true, if_false, reduceIte, decide_true, decide_false, decide_eq_true_eq, Option.some.injEq, and_self, Nat.add_one_sub_one, Nat.lt_add_one, Nat.zero_lt_succ, Value.int.injEq, Value.ref.injEq, Value.long.injEq, exists_eq_left', exists_eq_left, Sum.inl.injEq, Sum.inr.injEq, Option.isSome_some, Bool.not_true, h.T.t, h.T.r3, h.T.r4, h.T.T3.t, wF_of (q_hindrance h.V.P h.V.L e2 hq)]
        by_cases e0 : hind (aPn A) (aLm A) k q = 0
        · have hz : i2z (n32 0) = false := by decide
          rw [show wv A (n32 k) (n32 q) = (setTr (setLo (setAc A (keepL (aAc A) (aLm A))) (lAdd (aPn A) (aLm A) k q)) 0, true) by simp [wv, e, er, e0]]
          obtain ⟨M1, ac1, k1, k2, k3, k4⟩ := q_keepAct h
          obtain ⟨h1, h2, h3⟩ := hind_0 e0
          obtain ⟨M2, a1, a2, a3⟩ := q_addRow k2.V.P k2.V.L k2.hd e2 hq h1 h3
          have c2 := k2.loom a2 a3
          simp only [e0, hz, w_eK, w_eI, w_eL, w_eR, w_eT, w_b1, w_b2, w_b0, w_b0L, w_gI, w_gL, w_gN, w_gR, w_aI, w_aL, w_aR, w_aLen, w_tern, w_and, w_or, w_vN, vI, vJ, vA, vS, w_cFv, w_cFs, w_toI, w_toL, w_toV, w_nO, w_nA, eZ, cNot, s_skip, s_brk, s_cnt, s_retV, s_seq, s_if, s_set1, s_setL, s_inc, s_putI, s_putZ, s_putL, s_putR, s_upI, s_AI, s_AL, s_AR, s_UA, s_exp, s_ret, s_retZ, s_scope, s_unBrk, s_sw, s_sup, sSetI, sSetR, sRetI, sRetL, f_of, argE_n, argE_i, argE_r, argE_l, argE_a, sto_0, sto_s, sto_n0, sto_ns, isL_i, isL_r, isL_n, isL_a, isL_l, isL_0, rcv_r, rcv_a, List.getElem?_cons_zero, List.getElem?_cons_succ, List.getElem?_nil, List.set_cons_zero, List.set_cons_succ, List.take_succ_cons, List.take_zero, List.take_nil, List.length_cons, List.length_nil, List.nil_append, List.cons_append, Nat.reduceAdd, Nat.reduceSub, Nat.reduceLT, Nat.reduceEqDiff, Nat.reduceLeDiff, Nat.zero_add, Nat.lt_irrefl, Nat.succ_sub_one, and_true, true_and, and_false, false_and, not_false_eq_true, not_true_eq_false, Bool.false_eq_true, if_true, if_false, reduceIte, decide_true, decide_false, decide_eq_true_eq, Option.some.injEq, and_self, Nat.add_one_sub_one, Nat.lt_add_one, Nat.zero_lt_succ, Value.int.injEq, Value.ref.injEq, Value.long.injEq, exists_eq_left', exists_eq_left, Sum.inl.injEq, Sum.inr.injEq, h.T.t, wF_of k1, k2.T.t, k2.T.r4, k2.T.T3.t, k2.T.r3, wF_of a1, c2.T.t, wF_of (q_granted c2.T)]
          have c3 := c2.tr (t := 0) (by decide) (by decide)
          refine ⟨rfl, rfl, ⟨ac1, c3⟩, (k3.trans (Out.loom k2.T a2)).trans (((Fr.refl (fun a => a = B) M2).pI 6 _ rfl).out (fun a z => by omega)), Or.inr ?_⟩
          have := k2.T.pl
          rw [vi_ne (by omega), a2.vi (by omega)]
          exact k4
        · have hz : i2z (n32 (hind (aPn A) (aLm A) k q)) = true := by
            unfold i2z
            have : ¬ n32 (hind (aPn A) (aLm A) k q) = 0 := fun z => e0 ((n32_inj (by omega) (by decide)).mp (z.trans rfl))
            simp [this]
          rw [show wv A (n32 k) (n32 q) = (setTr A (hind (aPn A) (aLm A) k q), false) by simp [wv, e, er, e0]]
          simp only [hz, w_eK, w_eI, w_eL, w_eR, w_eT, w_b1, w_b2, w_b0, w_b0L, w_gI, w_gL, w_gN, w_gR, w_aI, w_aL, w_aR, w_aLen, w_tern, w_and, w_or, w_vN, vI, vJ, vA, vS, w_cFv, w_cFs, w_toI, w_toL, w_toV, w_nO, w_nA, eZ, cNot, s_skip, s_brk, s_cnt, s_retV, s_seq, s_if, s_set1, s_setL, s_inc, s_putI, s_putZ, s_putL, s_putR, s_upI, s_AI, s_AL, s_AR, s_UA, s_exp, s_ret, s_retZ, s_scope, s_unBrk, s_sw, s_sup, sSetI, sSetR, sRetI, sRetL, f_of, argE_n, argE_i, argE_r, argE_l, argE_a, sto_0, sto_s, sto_n0, sto_ns, isL_i, isL_r, isL_n, isL_a, isL_l, isL_0, rcv_r, rcv_a, List.getElem?_cons_zero, List.getElem?_cons_succ, List.getElem?_nil, List.set_cons_zero, List.set_cons_succ, List.take_succ_cons, List.take_zero, List.take_nil, List.length_cons, List.length_nil, List.nil_append, List.cons_append, Nat.reduceAdd, Nat.reduceSub, Nat.reduceLT, Nat.reduceEqDiff, Nat.reduceLeDiff, Nat.zero_add, Nat.lt_irrefl, Nat.succ_sub_one, and_true, true_and, and_false, false_and, not_false_eq_true, not_true_eq_false, Bool.false_eq_true, if_true, if_false, reduceIte, decide_true, decide_false, decide_eq_true_eq, Option.some.injEq, and_self, Nat.add_one_sub_one, Nat.lt_add_one, Nat.zero_lt_succ, Value.int.injEq, Value.ref.injEq, Value.long.injEq, exists_eq_left', exists_eq_left, Sum.inl.injEq, Sum.inr.injEq, h.T.t, wF_of (q_denied h.T _)]
          exact ⟨rfl, rfl, CR.ro h hl (hind_ne4 _ _ _ _)⟩
  obtain ⟨v, m, h1, rfl, h2⟩ := key
  exact ⟨m, h1, h2⟩
def ripA (A : Ab) (s : Int32) : Ab × Bool := match inO (aTd A) 2 s with
  | some k => (match lastO (aLm A) k 0 with
    | some r => (setTr (setLo (setAc A (keepL (aAc A) (aLm A))) (lDrop (aPn A) (aLm A) k r)) 0, true)
    | none => (setTr A 6, false))
  | none => (setTr A 1, false)
theorem c_rip (h : Cls M B P P2 L L2 ac A) (s : Int32) : ∃ M', f_X8_rip [.ref B, .int s] M = some (some (.int (b2i (ripA A s).2)), M') ∧ CR M B P P2 L L2 A (ripA A s).1 M' := by
  have key : wF f_X8_rip [.ref B, .int s] M (fun v M' => v = some (Value.int (b2i (ripA A s).2)) ∧ CR M B P P2 L L2 A (ripA A s).1 M') := by
    unfold f_X8_rip b_X8_rip
    simp only [w_eK, w_eI, w_eL, w_eR, w_eT, w_b1, w_b2, w_b0, w_b0L, w_gI, w_gL, w_gN, w_gR, w_aI, w_aL, w_aR, w_aLen, w_tern, w_and, w_or, w_vN, vI, vJ, vA, vS, w_cFv, w_cFs, w_toI, w_toL, w_toV, w_nO, w_nA, eZ, cNot, s_skip, s_brk, s_cnt, s_retV, s_seq, s_if, s_set1, s_setL, s_inc, s_putI, s_putZ, s_putL, s_putR, s_upI, s_AI, s_AL, s_AR, s_UA, s_exp, s_ret, s_retZ, s_scope, s_unBrk, s_sw, s_sup, sSetI, sSetR, sRetI, sRetL, f_of, argE_n, argE_i, argE_r, argE_l, argE_a, sto_0, sto_s, sto_n0, sto_ns, isL_i, isL_r, isL_n, isL_a, isL_l, isL_0, rcv_r, rcv_a, List.getElem?_cons_zero, List.getElem?_cons_succ, List.getElem?_nil, List.set_cons_zero, List.set_cons_succ, List.take_succ_cons, List.take_zero, List.take_nil, List.length_cons, List.length_nil, List.nil_append, List.cons_append, Nat.reduceAdd, Nat.reduceSub, Nat.reduceLT, Nat.reduceEqDiff, Nat.reduceLeDiff, Nat.zero_add, Nat.lt_irrefl, Nat.succ_sub_one, and_true, true_and, and_false, false_and, not_false_eq_true, not_true_eq_false, Bool.false_eq_true, if_true, if_false, reduceIte, decide_true, decide_false, decide_eq_true_eq, Option.some.injEq, and_self, Nat.add_one_sub_one, Nat.lt_add_one, Nat.zero_lt_succ, Value.int.injEq, Value.ref.injEq, Value.long.injEq, exists_eq_left', exists_eq_left, Sum.inl.injEq, Sum.inr.injEq, h.T.t, wF_of (q_isSide h s), i2z_b2i]
    cases e : inO (aTd A) 2 s with
    | none =>
      rw [show ripA A s = (setTr A 1, false) by simp [ripA, e]]
      simp only [w_eK, w_eI, w_eL, w_eR, w_eT, w_b1, w_b2, w_b0, w_b0L, w_gI, w_gL, w_gN, w_gR, w_aI, w_aL, w_aR, w_aLen, w_tern, w_and, w_or, w_vN, vI, vJ, vA, vS, w_cFv, w_cFs, w_toI, w_toL, w_toV, w_nO, w_nA, eZ, cNot, s_skip, s_brk, s_cnt, s_retV, s_seq, s_if, s_set1, s_setL, s_inc, s_putI, s_putZ, s_putL, s_putR, s_upI, s_AI, s_AL, s_AR, s_UA, s_exp, s_ret, s_retZ, s_scope, s_unBrk, s_sw, s_sup, sSetI, sSetR, sRetI, sRetL, f_of, argE_n, argE_i, argE_r, argE_l, argE_a, sto_0, sto_s, sto_n0, sto_ns, isL_i, isL_r, isL_n, isL_a, isL_l, isL_0, rcv_r, rcv_a, List.getElem?_cons_zero, List.getElem?_cons_succ, List.getElem?_nil, List.set_cons_zero, List.set_cons_succ, List.take_succ_cons, List.take_zero, List.take_nil, List.length_cons, List.length_nil, List.nil_append, List.cons_append, Nat.reduceAdd, Nat.reduceSub, Nat.reduceLT, Nat.reduceEqDiff, Nat.reduceLeDiff, Nat.zero_add, Nat.lt_irrefl, Nat.succ_sub_one, and_true, true_and, and_false, false_and, not_false_eq_true, not_true_eq_false, Bool.false_eq_true, if_true, if_false, reduceIte, decide_true, decide_false, decide_eq_true_eq, Option.some.injEq, and_self, Nat.add_one_sub_one, Nat.lt_add_one, Nat.zero_lt_succ, Value.int.injEq, Value.ref.injEq, Value.long.injEq, exists_eq_left', exists_eq_left, Sum.inl.injEq, Sum.inr.injEq, l_0, l_1, l_2, l_3, l_4, l_5, l_6, l_7, l_8, l_9, l_10, l_12, l_20, l_23, l_24, l_25, l_32, l_48, l_60, l_100, l_200, l_255, l_900, n32_add, n32_mul, n32_inc, neg1, neg2, l_11, l_50, l_54, l_58, l_59, l_649, Option.isSome_none, Bool.not_false, h.T.t, wF_of (q_denied h.T _)]
      exact ⟨rfl, rfl, CR.ro h (by decide) (by decide)⟩
    | some k =>
      obtain ⟨e1, e2, rfl⟩ := inO_some (by decide) e
      have hc := h.V.L.O.c k e2
      have s0 := lastO_isSome (aLm A) k
      simp (disch := omega) only [w_eK, w_eI, w_eL, w_eR, w_eT, w_b1, w_b2, w_b0, w_b0L, w_gI, w_gL, w_gN, w_gR, w_aI, w_aL, w_aR, w_aLen, w_tern, w_and, w_or, w_vN, vI, vJ, vA, vS, w_cFv, w_cFs, w_toI, w_toL, w_toV, w_nO, w_nA, eZ, cNot, s_skip, s_brk, s_cnt, s_retV, s_seq, s_if, s_set1, s_setL, s_inc, s_putI, s_putZ, s_putL, s_putR, s_upI, s_AI, s_AL, s_AR, s_UA, s_exp, s_ret, s_retZ, s_scope, s_unBrk, s_sw, s_sup, sSetI, sSetR, sRetI, sRetL, f_of, argE_n, argE_i, argE_r, argE_l, argE_a, sto_0, sto_s, sto_n0, sto_ns, isL_i, isL_r, isL_n, isL_a, isL_l, isL_0, rcv_r, rcv_a, List.getElem?_cons_zero, List.getElem?_cons_succ, List.getElem?_nil, List.set_cons_zero, List.set_cons_succ, List.take_succ_cons, List.take_zero, List.take_nil, List.length_cons, List.length_nil, List.nil_append, List.cons_append, Nat.reduceAdd, Nat.reduceSub, Nat.reduceLT, Nat.reduceEqDiff, Nat.reduceLeDiff, Nat.zero_add, Nat.lt_irrefl, Nat.succ_sub_one, and_true, true_and, and_false, false_and, not_false_eq_true, not_true_eq_false, Bool.false_eq_true, if_true, if_false, reduceIte, decide_true, decide_false, decide_eq_true_eq, Option.some.injEq, and_self, Nat.add_one_sub_one, Nat.lt_add_one, Nat.zero_lt_succ, Value.int.injEq, Value.ref.injEq, Value.long.injEq, exists_eq_left', exists_eq_left, Sum.inl.injEq, Sum.inr.injEq, Option.isSome_some, Bool.not_true, h.T.t, h.T.r4, h.T.T3.t, h.T.T3.r1, h.T.T3.t2, n_iEq, n_iNe, n_iLt, n_iLe, n_iGt, n_iGe, n_zEq, n_zLt, n_zLe, n_zGt, n_zGe, n_inb, n32_clamp, h.V.L.V.c k e2, e2]
      cases el : lastO (aLm A) k 0 with
      | none =>
        rw [show ripA A (n32 k) = (setTr A 6, false) by simp [ripA, e, el]]
        rw [el] at s0
        have : lC (aLm A) k = 0 := by simpa using s0
        simp only [this, w_eK, w_eI, w_eL, w_eR, w_eT, w_b1, w_b2, w_b0, w_b0L, w_gI, w_gL, w_gN, w_gR, w_aI, w_aL, w_aR, w_aLen, w_tern, w_and, w_or, w_vN, vI, vJ, vA, vS, w_cFv, w_cFs, w_toI, w_toL, w_toV, w_nO, w_nA, eZ, cNot, s_skip, s_brk, s_cnt, s_retV, s_seq, s_if, s_set1, s_setL, s_inc, s_putI, s_putZ, s_putL, s_putR, s_upI, s_AI, s_AL, s_AR, s_UA, s_exp, s_ret, s_retZ, s_scope, s_unBrk, s_sw, s_sup, sSetI, sSetR, sRetI, sRetL, f_of, argE_n, argE_i, argE_r, argE_l, argE_a, sto_0, sto_s, sto_n0, sto_ns, isL_i, isL_r, isL_n, isL_a, isL_l, isL_0, rcv_r, rcv_a, List.getElem?_cons_zero, List.getElem?_cons_succ, List.getElem?_nil, List.set_cons_zero, List.set_cons_succ, List.take_succ_cons, List.take_zero, List.take_nil, List.length_cons, List.length_nil, List.nil_append, List.cons_append, Nat.reduceAdd, Nat.reduceSub, Nat.reduceLT, Nat.reduceEqDiff, Nat.reduceLeDiff, Nat.zero_add, Nat.lt_irrefl, Nat.succ_sub_one, and_true, true_and, and_false, false_and, not_false_eq_true, not_true_eq_false, Bool.false_eq_true, if_true, if_false, reduceIte, decide_true, decide_false, decide_eq_true_eq, Option.some.injEq, and_self, Nat.add_one_sub_one, Nat.lt_add_one, Nat.zero_lt_succ, Value.int.injEq, Value.ref.injEq, Value.long.injEq, exists_eq_left', exists_eq_left, Sum.inl.injEq, Sum.inr.injEq, l_0, l_1, l_2, l_3, l_4, l_5, l_6, l_7, l_8, l_9, l_10, l_12, l_20, l_23, l_24, l_25, l_32, l_48, l_60, l_100, l_200, l_255, l_900, n32_add, n32_mul, n32_inc, neg1, neg2, l_11, l_50, l_54, l_58, l_59, l_649, h.T.t, wF_of (q_denied h.T _)]
        exact ⟨rfl, rfl, CR.ro h (by decide) (by decide)⟩
      | some r =>
        rw [el] at s0
        have hp : 0 < lC (aLm A) k := by simpa using s0
        rw [show ripA A (n32 k) = (setTr (setLo (setAc A (keepL (aAc A) (aLm A))) (lDrop (aPn A) (aLm A) k r)) 0, true) by simp [ripA, e, el]]
        obtain ⟨M1, ac1, k1, k2, k3, k4⟩ := q_keepAct h
        obtain ⟨M2, a1, a2, a3⟩ := q_dropRow k2.V.P k2.V.L k2.hd e2 el
        have c2 := k2.loom a2 a3
        simp only [show ¬ lC (aLm A) k = 0 by omega, w_eK, w_eI, w_eL, w_eR, w_eT, w_b1, w_b2, w_b0, w_b0L, w_gI, w_gL, w_gN, w_gR, w_aI, w_aL, w_aR, w_aLen, w_tern, w_and, w_or, w_vN, vI, vJ, vA, vS, w_cFv, w_cFs, w_toI, w_toL, w_toV, w_nO, w_nA, eZ, cNot, s_skip, s_brk, s_cnt, s_retV, s_seq, s_if, s_set1, s_setL, s_inc, s_putI, s_putZ, s_putL, s_putR, s_upI, s_AI, s_AL, s_AR, s_UA, s_exp, s_ret, s_retZ, s_scope, s_unBrk, s_sw, s_sup, sSetI, sSetR, sRetI, sRetL, f_of, argE_n, argE_i, argE_r, argE_l, argE_a, sto_0, sto_s, sto_n0, sto_ns, isL_i, isL_r, isL_n, isL_a, isL_l, isL_0, rcv_r, rcv_a, List.getElem?_cons_zero, List.getElem?_cons_succ, List.getElem?_nil, List.set_cons_zero, List.set_cons_succ, List.take_succ_cons, List.take_zero, List.take_nil, List.length_cons, List.length_nil, List.nil_append, List.cons_append, Nat.reduceAdd, Nat.reduceSub, Nat.reduceLT, Nat.reduceEqDiff, Nat.reduceLeDiff, Nat.zero_add, Nat.lt_irrefl, Nat.succ_sub_one, and_true, true_and, and_false, false_and, not_false_eq_true, not_true_eq_false, Bool.false_eq_true, if_true, if_false, reduceIte, decide_true, decide_false, decide_eq_true_eq, Option.some.injEq, and_self, Nat.add_one_sub_one, Nat.lt_add_one, Nat.zero_lt_succ, Value.int.injEq, Value.ref.injEq, Value.long.injEq, exists_eq_left', exists_eq_left, Sum.inl.injEq, Sum.inr.injEq, h.T.t, wF_of k1, k2.T.t, k2.T.r4, k2.T.T3.t, k2.T.r3, wF_of a1, c2.T.t, wF_of (q_granted c2.T)]
        have c3 := c2.tr (t := 0) (by decide) (by decide)
        refine ⟨rfl, rfl, ⟨ac1, c3⟩, (k3.trans (Out.loom k2.T a2)).trans (((Fr.refl (fun a => a = B) M2).pI 6 _ rfl).out (fun a z => by omega)), Or.inr ?_⟩
        have := k2.T.pl
        rw [vi_ne (by omega), a2.vi (by omega)]
        exact k4
  obtain ⟨v, m, h1, rfl, h2⟩ := key
  exact ⟨m, h1, h2⟩
end
