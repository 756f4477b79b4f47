/-! THE TAPE, in the class -/
def by8 (v : Int32) (j : Nat) : Int32 := nar 22 ((shrI v (n32 (24 - 8 * j))).toInt8.toInt32)
def ft (tp : Nat → Int32) (n : Nat) (v : Int32) : Nat → Int32 := fun i => if i < n then tp i else by8 v (i - n)
def sel5 (a b c d e : Int32) (k : Nat) : Int32 := if k < 4 then a else if k < 8 then b else if k < 12 then c else if k < 16 then d else e
def fe20 (tp : Nat → Int32) (n : Nat) (a b c d e : Int32) : Nat → Int32 := fun i => if i < n then tp i else by8 (sel5 a b c d e (i - n)) ((i - n) % 4)
theorem ft5 (tp : Nat → Int32) (n : Nat) (a b c d e : Int32) {i : Nat} (hi : i < n + 20) : ft (ft (ft (ft (ft tp n a) (n + 4) b) (n + 8) c) (n + 12) d) (n + 16) e i = fe20 tp n a b c d e i := by
  unfold ft fe20 sel5
  by_cases h0 : i < n
  · simp [h0, show i < n + 16 by omega, show i < n + 12 by omega, show i < n + 8 by omega, show i < n + 4 by omega]
  · by_cases h1 : i < n + 4
    · simp [h0, h1, show i < n + 16 by omega, show i < n + 12 by omega, show i < n + 8 by omega, show i - n < 4 by omega, show (i - n) % 4 = i - n by omega]
    · by_cases h2 : i < n + 8
      · simp [h0, h1, h2, show i < n + 16 by omega, show i < n + 12 by omega, show ¬ i - n < 4 by omega, show i - n < 8 by omega, show (i - n) % 4 = i - (n + 4) by omega]
      · by_cases h3 : i < n + 12
        · simp [h0, h1, h2, h3, show i < n + 16 by omega, show ¬ i - n < 4 by omega, show ¬ i - n < 8 by omega, show i - n < 12 by omega, show (i - n) % 4 = i - (n + 8) by omega]
        · by_cases h4 : i < n + 16
          · simp [h0, h1, h2, h3, h4, show ¬ i - n < 4 by omega, show ¬ i - n < 8 by omega, show ¬ i - n < 12 by omega, show i - n < 16 by omega, show (i - n) % 4 = i - (n + 12) by omega]
          · simp [h0, h1, h2, h3, h4, show ¬ i - n < 4 by omega, show ¬ i - n < 8 by omega, show ¬ i - n < 12 by omega, show ¬ i - n < 16 by omega, show (i - n) % 4 = i - (n + 16) by omega]
def setTape (A : Ab) (n : Nat) (tp : Nat → Int32) : Ab := (A.1, A.2.1, A.2.2.1, A.2.2.2.1, A.2.2.2.2.1, n, tp, A.2.2.2.2.2.2.2)
def feedA (A : Ab) (a b c d e : Int32) : Ab × Int32 := if 900 < aTl A + 20 then (A, -1) else (setTape A (aTl A + 20) (fe20 (aTp A) (aTl A) a b c d e), n32 (aTl A + 20))
def shf (j : Nat) : Int32 := n32 24 - n32 (8 * j)
theorem shf_ge : ∀ j : Fin 5, zGe (shf j) = decide ((j : Nat) < 4) := by decide
theorem shf_n : ∀ j : Fin 4, shf j = n32 (24 - 8 * j) := by decide
theorem shf_s : ∀ j : Fin 4, shf j + Int32.ofInt (-8) = shf (j + 1) := by decide
section
variable {M : qM} {B P P2 L L2 : Nat} {ac : Nat → Nat} {A : Ab}
theorem q_addBytes (h : ClsT M B P P2 L L2 ac) {n : Nat} {tp : Nat → Int32} (hn : vi M B 1 = n32 n) (htp : ∀ i, i < n → vi M (B + 1) i = tp i) (h9 : n + 4 ≤ 900) (v : Int32) : ∃ M', f_X8_addBytes [.ref B, .int v] M = some (none, M') ∧ Fr (fun a => a = B ∨ a = B + 1) M M' ∧ vi M' B 1 = n32 (n + 4) ∧ (∀ j, j ≠ 1 → vi M' B j = vi M B j) ∧ ∀ i, i < n + 4 → vi M' (B + 1) i = ft tp n v i := by
  have key : wF f_X8_addBytes [.ref B, .int v] M (fun r M' => r = none ∧ Fr (fun a => a = B ∨ a = B + 1) M M' ∧ vi M' B 1 = n32 (n + 4) ∧ (∀ j, j ≠ 1 → vi M' B j = vi M B j) ∧ ∀ i, i < n + 4 → vi M' (B + 1) i = ft tp n v i) := by
    unfold f_X8_addBytes b_X8_addBytes
    simp only [w_eK, w_eI, w_eL, w_eR, w_eT, w_b1, w_b2, w_b0, w_b0L, w_gI, w_gL, w_gN, w_gR, w_aI, w_aL, w_aR, w_aLen, w_tern, w_and, w_or, w_vN, vI, vJ, vA, vS, w_cFv, w_cFs, w_toI, w_toL, w_toV, w_nO, w_nA, eZ, cNot, s_skip, s_brk, s_cnt, s_retV, s_seq, s_if, s_set1, s_setL, s_inc, s_putI, s_putZ, s_putL, s_putR, s_upI, s_AI, s_AL, s_AR, s_UA, s_exp, s_ret, s_retZ, s_scope, s_unBrk, s_sw, s_sup, sSetI, sSetR, sRetI, sRetL, f_of, argE_n, argE_i, argE_r, argE_l, argE_a, sto_0, sto_s, sto_n0, sto_ns, isL_i, isL_r, isL_n, isL_a, isL_l, isL_0, rcv_r, rcv_a, List.getElem?_cons_zero, List.getElem?_cons_succ, List.getElem?_nil, List.set_cons_zero, List.set_cons_succ, List.take_succ_cons, List.take_zero, List.take_nil, List.length_cons, List.length_nil, List.nil_append, List.cons_append, Nat.reduceAdd, Nat.reduceSub, Nat.reduceLT, Nat.reduceEqDiff, Nat.reduceLeDiff, Nat.zero_add, Nat.lt_irrefl, Nat.succ_sub_one, and_true, true_and, and_false, false_and, not_false_eq_true, not_true_eq_false, Bool.false_eq_true, if_true, if_false, reduceIte, decide_true, decide_false, decide_eq_true_eq, Option.some.injEq, and_self, Nat.add_one_sub_one, Nat.lt_add_one, Nat.zero_lt_succ, Value.int.injEq, Value.ref.injEq, Value.long.injEq, exists_eq_left', exists_eq_left, Sum.inl.injEq, Sum.inr.injEq]
    refine s_up (fun j e m => e = [.ref B, .int v, .int (shf j)] ∧ Fr (fun a => a = B ∨ a = B + 1) M m ∧ vi m B 1 = n32 (n + j) ∧ (∀ k, k ≠ 1 → vi m B k = vi M B k) ∧ ∀ i, i < n + j → vi m (B + 1) i = ft tp n v i) 4 ⟨rfl, Fr.refl _ _, hn, fun _ _ => rfl, fun i hi => by rw [htp i (by omega), ft, if_pos (by omega)]⟩ ?_ ?_
    · rintro j e m hj ⟨rfl, f, h1, h2, h3⟩
      have g := h.fr f
      have s1 := shf_ge ⟨j, by omega⟩
      have s2 := shf_n ⟨j, hj⟩
      have s3 := shf_s ⟨j, hj⟩
      dsimp only at s1 s2 s3
      have : decide (j < 4) = true := decide_eq_true hj
      rw [this] at s1
      simp (disch := omega) only [w_eK, w_eI, w_eL, w_eR, w_eT, w_b1, w_b2, w_b0, w_b0L, w_gI, w_gL, w_gN, w_gR, w_aI, w_aL, w_aR, w_aLen, w_tern, w_and, w_or, w_vN, vI, vJ, vA, vS, w_cFv, w_cFs, w_toI, w_toL, w_toV, w_nO, w_nA, eZ, cNot, s_skip, s_brk, s_cnt, s_retV, s_seq, s_if, s_set1, s_setL, s_inc, s_putI, s_putZ, s_putL, s_putR, s_upI, s_AI, s_AL, s_AR, s_UA, s_exp, s_ret, s_retZ, s_scope, s_unBrk, s_sw, s_sup, sSetI, sSetR, sRetI, sRetL, f_of, argE_n, argE_i, argE_r, argE_l, argE_a, sto_0, sto_s, sto_n0, sto_ns, isL_i, isL_r, isL_n, isL_a, isL_l, isL_0, rcv_r, rcv_a, List.getElem?_cons_zero, List.getElem?_cons_succ, List.getElem?_nil, List.set_cons_zero, List.set_cons_succ, List.take_succ_cons, List.take_zero, List.take_nil, List.length_cons, List.length_nil, List.nil_append, List.cons_append, Nat.reduceAdd, Nat.reduceSub, Nat.reduceLT, Nat.reduceEqDiff, Nat.reduceLeDiff, Nat.zero_add, Nat.lt_irrefl, Nat.succ_sub_one, and_true, true_and, and_false, false_and, not_false_eq_true, not_true_eq_false, Bool.false_eq_true, if_true, if_false, reduceIte, decide_true, decide_false, decide_eq_true_eq, Option.some.injEq, and_self, Nat.add_one_sub_one, Nat.lt_add_one, Nat.zero_lt_succ, Value.int.injEq, Value.ref.injEq, Value.long.injEq, exists_eq_left', exists_eq_left, Sum.inl.injEq, Sum.inr.injEq, l_0, l_1, l_2, l_3, l_4, l_5, l_6, l_7, l_8, l_9, l_10, l_12, l_20, l_23, l_24, l_25, l_32, l_48, l_60, l_100, l_200, l_255, l_900, n32_add, n32_mul, n32_inc, neg1, neg2, l_11, l_50, l_54, l_58, l_59, l_649, s1, s3, g.t, g.r0, g.t1, h1, n_iEq, n_iNe, n_iLt, n_iLe, n_iGt, n_iGe, n_zEq, n_zLt, n_zLe, n_zGt, n_zGe, n_inb, n32_clamp, tg_pI, tg_pL, tg_pR, vr_pI, vr_pL, vl_pI, vl_pR, vi_pL, vi_pR, mN_pI, mN_pL, mN_pR, mU_pI, mU_pL, mU_pR, vi_ne]
      refine ⟨by omega, by omega, (f.pI _ _ (Or.inr rfl)).pI _ _ (Or.inl rfl), ?_, fun k hk => ?_, fun i hi => ?_⟩
      · rw [vi_self]; congr 1
      · rw [vi_nk hk, vi_ne (by omega)]; exact h2 k hk
      · rw [vi_pI]
        by_cases ei : i = n + j
        · subst ei
          rw [if_pos ⟨rfl, rfl⟩, ft, if_neg (by omega), by8, s2]
          congr 5; omega
        · rw [if_neg (fun z => ei z.2)]; exact h3 i (by omega)
    · rintro e m ⟨rfl, f, h1, h2, h3⟩
      have s1 : zGe (shf 4) = false := by decide
      simp only [w_eK, w_eI, w_eL, w_eR, w_eT, w_b1, w_b2, w_b0, w_b0L, w_gI, w_gL, w_gN, w_gR, w_aI, w_aL, w_aR, w_aLen, w_tern, w_and, w_or, w_vN, vI, vJ, vA, vS, w_cFv, w_cFs, w_toI, w_toL, w_toV, w_nO, w_nA, eZ, cNot, s_skip, s_brk, s_cnt, s_retV, s_seq, s_if, s_set1, s_setL, s_inc, s_putI, s_putZ, s_putL, s_putR, s_upI, s_AI, s_AL, s_AR, s_UA, s_exp, s_ret, s_retZ, s_scope, s_unBrk, s_sw, s_sup, sSetI, sSetR, sRetI, sRetL, f_of, argE_n, argE_i, argE_r, argE_l, argE_a, sto_0, sto_s, sto_n0, sto_ns, isL_i, isL_r, isL_n, isL_a, isL_l, isL_0, rcv_r, rcv_a, List.getElem?_cons_zero, List.getElem?_cons_succ, List.getElem?_nil, List.set_cons_zero, List.set_cons_succ, List.take_succ_cons, List.take_zero, List.take_nil, List.length_cons, List.length_nil, List.nil_append, List.cons_append, Nat.reduceAdd, Nat.reduceSub, Nat.reduceLT, Nat.reduceEqDiff, Nat.reduceLeDiff, Nat.zero_add, Nat.lt_irrefl, Nat.succ_sub_one, and_true, true_and, and_false, false_and, not_false_eq_true, not_true_eq_false, Bool.false_eq_true, if_true, if_false, reduceIte, decide_true, decide_false, decide_eq_true_eq, Option.some.injEq, and_self, Nat.add_one_sub_one, Nat.lt_add_one, Nat.zero_lt_succ, Value.int.injEq, Value.ref.injEq, Value.long.injEq, exists_eq_left', exists_eq_left, Sum.inl.injEq, Sum.inr.injEq, s1]
      exact ⟨f, h1, h2, h3⟩
  obtain ⟨r, m, h1, rfl, h2⟩ := key
  exact ⟨m, h1, h2⟩
theorem c_feed (h : Cls M B P P2 L L2 ac A) (a b c d e : Int32) : ∃ M', f_X8_feed [.ref B, .int a, .int b, .int c, .int d, .int e] M = some (some (.int (feedA A a b c d e).2), M') ∧ CR M B P P2 L L2 A (feedA A a b c d e).1 M' := by
  have h9 := h.V.tl9
  have hpl := h.T.pl
  by_cases e9 : 900 < aTl A + 20
  · refine ⟨M, ?_, ?_⟩
    · apply wF_eq
      unfold f_X8_feed b_X8_feed
      rw [show feedA A a b c d e = (A, -1) by simp [feedA, e9]]
      simp (disch := omega) only [w_eK, w_eI, w_eL, w_eR, w_eT, w_b1, w_b2, w_b0, w_b0L, w_gI, w_gL, w_gN, w_gR, w_aI, w_aL, w_aR, w_aLen, w_tern, w_and, w_or, w_vN, vI, vJ, vA, vS, w_cFv, w_cFs, w_toI, w_toL, w_toV, w_nO, w_nA, eZ, cNot, s_skip, s_brk, s_cnt, s_retV, s_seq, s_if, s_set1, s_setL, s_inc, s_putI, s_putZ, s_putL, s_putR, s_upI, s_AI, s_AL, s_AR, s_UA, s_exp, s_ret, s_retZ, s_scope, s_unBrk, s_sw, s_sup, sSetI, sSetR, sRetI, sRetL, f_of, argE_n, argE_i, argE_r, argE_l, argE_a, sto_0, sto_s, sto_n0, sto_ns, isL_i, isL_r, isL_n, isL_a, isL_l, isL_0, rcv_r, rcv_a, List.getElem?_cons_zero, List.getElem?_cons_succ, List.getElem?_nil, List.set_cons_zero, List.set_cons_succ, List.take_succ_cons, List.take_zero, List.take_nil, List.length_cons, List.length_nil, List.nil_append, List.cons_append, Nat.reduceAdd, Nat.reduceSub, Nat.reduceLT, Nat.reduceEqDiff, Nat.reduceLeDiff, Nat.zero_add, Nat.lt_irrefl, Nat.succ_sub_one, and_true, true_and, and_false, false_and, not_false_eq_true, not_true_eq_false, Bool.false_eq_true, if_true, if_false, reduceIte, decide_true, decide_false, decide_eq_true_eq, Option.some.injEq, and_self, Nat.add_one_sub_one, Nat.lt_add_one, Nat.zero_lt_succ, Value.int.injEq, Value.ref.injEq, Value.long.injEq, exists_eq_left', exists_eq_left, Sum.inl.injEq, Sum.inr.injEq, l_0, l_1, l_2, l_3, l_4, l_5, l_6, l_7, l_8, l_9, l_10, l_12, l_20, l_23, l_24, l_25, l_32, l_48, l_60, l_100, l_200, l_255, l_900, n32_add, n32_mul, n32_inc, neg1, neg2, l_11, l_50, l_54, l_58, l_59, l_649, h.T.t, h.V.tl, n_iEq, n_iNe, n_iLt, n_iLe, n_iGt, n_iGe, n_zEq, n_zLt, n_zLe, n_zGt, n_zGe, n_inb, n32_clamp, e9]
    · rw [show feedA A a b c d e = (A, -1) by simp [feedA, e9]]
      exact ⟨⟨ac, h⟩, Out.refl _ _ _, Or.inl ⟨fun _ _ _ => rfl, rfl, rfl⟩⟩
  · obtain ⟨M1, e1, f1, v1, w1, t1⟩ := q_addBytes h.T h.V.tl h.V.tp (by omega) a
    obtain ⟨M2, e2, f2, v2, w2, t2⟩ := q_addBytes (h.T.fr f1) v1 t1 (by omega) b
    obtain ⟨M3, e3, f3, v3, w3, t3⟩ := q_addBytes ((h.T.fr f1).fr f2) v2 t2 (by omega) c
    obtain ⟨M4, e4, f4, v4, w4, t4⟩ := q_addBytes (((h.T.fr f1).fr f2).fr f3) v3 t3 (by omega) d
    obtain ⟨M5, e5, f5, v5, w5, t5⟩ := q_addBytes ((((h.T.fr f1).fr f2).fr f3).fr f4) v4 t4 (by omega) e
    have F := (((f1.trans f2).trans f3).trans f4).trans f5
    have w : ∀ j, j ≠ 1 → vi M5 B j = vi M B j := fun j hj => by rw [w5 j hj, w4 j hj, w3 j hj, w2 j hj, w1 j hj]
    have v5 : vi M5 B 1 = n32 (aTl A + 20) := v5
    refine ⟨M5, ?_, ?_⟩
    · apply wF_eq
      unfold f_X8_feed b_X8_feed
      rw [show feedA A a b c d e = (setTape A (aTl A + 20) (fe20 (aTp A) (aTl A) a b c d e), n32 (aTl A + 20)) by simp [feedA, e9]]
      simp (disch := omega) only [w_eK, w_eI, w_eL, w_eR, w_eT, w_b1, w_b2, w_b0, w_b0L, w_gI, w_gL, w_gN, w_gR, w_aI, w_aL, w_aR, w_aLen, w_tern, w_and, w_or, w_vN, vI, vJ, vA, vS, w_cFv, w_cFs, w_toI, w_toL, w_toV, w_nO, w_nA, eZ, cNot, s_skip, s_brk, s_cnt, s_retV, s_seq, s_if, s_set1, s_setL, s_inc, s_putI, s_putZ, s_putL, s_putR, s_upI, s_AI, s_AL, s_AR, s_UA, s_exp, s_ret, s_retZ, s_scope, s_unBrk, s_sw, s_sup, sSetI, sSetR, sRetI, sRetL, f_of, argE_n, argE_i, argE_r, argE_l, argE_a, sto_0, sto_s, sto_n0, sto_ns, isL_i, isL_r, isL_n, isL_a, isL_l, isL_0, rcv_r, rcv_a, List.getElem?_cons_zero, List.getElem?_cons_succ, List.getElem?_nil, List.set_cons_zero, List.set_cons_succ, List.take_succ_cons, List.take_zero, List.take_nil, List.length_cons, List.length_nil, List.nil_append, List.cons_append, Nat.reduceAdd, Nat.reduceSub, Nat.reduceLT, Nat.reduceEqDiff, Nat.reduceLeDiff, Nat.zero_add, Nat.lt_irrefl, Nat.succ_sub_one, and_true, true_and, and_false, false_and, not_false_eq_true, not_true_eq_false, Bool.false_eq_true, if_true, if_false, reduceIte, decide_true, decide_false, decide_eq_true_eq, Option.some.injEq, and_self, Nat.add_one_sub_one, Nat.lt_add_one, Nat.zero_lt_succ, Value.int.injEq, Value.ref.injEq, Value.long.injEq, exists_eq_left', exists_eq_left, Sum.inl.injEq, Sum.inr.injEq, l_0, l_1, l_2, l_3, l_4, l_5, l_6, l_7, l_8, l_9, l_10, l_12, l_20, l_23, l_24, l_25, l_32, l_48, l_60, l_100, l_200, l_255, l_900, n32_add, n32_mul, n32_inc, neg1, neg2, l_11, l_50, l_54, l_58, l_59, l_649, h.T.t, h.V.tl, n_iEq, n_iNe, n_iLt, n_iLe, n_iGt, n_iGe, n_zEq, n_zLt, n_zLe, n_zGt, n_zGe, n_inb, n32_clamp, e9, wF_of e1, (h.T.fr f1).t, wF_of e2, ((h.T.fr f1).fr f2).t, wF_of e3, (((h.T.fr f1).fr f2).fr f3).t, wF_of e4, ((((h.T.fr f1).fr f2).fr f3).fr f4).t, wF_of e5, (h.T.fr F).t, v5]
    · rw [show feedA A a b c d e = (setTape A (aTl A + 20) (fe20 (aTp A) (aTl A) a b c d e), n32 (aTl A + 20)) by simp [feedA, e9]]
      refine ⟨⟨ac, h.T.fr F, h.S.fr F, ⟨?_, ?_, h.V.trl, ?_, h.V.nac12, ?_, h.V.nmk3, v5, ?_, fun i hi => ?_, ?_, fun e4 => ?_, h.V.P.fr F (fun a h1 h2 z => by omega), h.V.L.fr F (fun a h1 h2 z => by omega), fun i lo hi => (h.V.ac i lo hi).fr F (fun a h1 h2 z => ?_), fun i lo hi => (h.V.mk i lo hi).fr F (fun a h1 h2 z => by omega)⟩⟩, F.out (fun a z => by omega), Or.inl ⟨F.bk (fun a z => by omega), rfl, rfl⟩⟩
      · rw [w 5 (by decide)]; exact h.V.told
      · rw [w 6 (by decide)]; exact h.V.tr
      · rw [w 8 (by decide)]; exact h.V.nac
      · rw [w 10 (by decide)]; exact h.V.nmk
      · show aTl A + 20 ≤ 900
        omega
      · rw [t5 i hi]
        exact ft5 _ _ _ _ _ _ _ hi
      · rw [F.vi (by omega)]; exact h.V.ft
      · rw [F.vi (by omega)]; exact h.V.pc e4
      · have := h.T.ai (h.acl hi)
        omega
end
