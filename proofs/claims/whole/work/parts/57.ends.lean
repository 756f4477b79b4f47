/-! THE TABLE OF ENDS -/
def EB (p : Pl) (s s0 s1 : Nat) : Nat → Option Nat → Nat → Nat → Nat → Bool
  | 0, o, _, _, e => decide (o = some e)
  | n + 1, o, u, v, e => anyB (pK p) fun r => folO p s o r && decide (u + tkc p r 0 ≤ s0) && decide (v + tkc p r 1 ≤ s1) && EB p s s0 s1 n (some r) (u + tkc p r 0) (v + tkc p r 1) e
def lastL (o : Option Nat) (l : List Nat) : Option Nat := match l.getLast? with | none => o | some e => some e
theorem lastL_cons (o : Option Nat) (r : Nat) (l : List Nat) : lastL o (r :: l) = lastL (some r) l := by
  unfold lastL
  cases l with
  | nil => rfl
  | cons q l =>
    rw [List.getLast?_cons_cons]
    cases h : (q :: l).getLast? with
    | none => simp at h
    | some z => rfl
theorem EB_iff (p : Pl) (s s0 s1 : Nat) : ∀ (n : Nat) (o : Option Nat) (u v e : Nat), u ≤ s0 → v ≤ s1 → (EB p s s0 s1 n o u v e = true ↔ ∃ l : List Nat, l.length = n ∧ pthR (fol p s) (folO p s o) l ∧ (∀ x, x ∈ l → x < pK p) ∧ u + useL p 0 l ≤ s0 ∧ v + useL p 1 l ≤ s1 ∧ lastL o l = some e)
  | 0, o, u, v, e, hu, hv => by
    show decide (o = some e) = true ↔ _
    rw [decide_eq_true_eq]
    constructor
    · intro h
      exact ⟨[], rfl, trivial, fun x hx => by simp at hx, by simpa [useL] using hu, by simpa [useL] using hv, h⟩
    · rintro ⟨l, h1, -, -, -, -, h6⟩
      have : l = [] := List.length_eq_zero_iff.mp h1
      subst this; exact h6
  | n + 1, o, u, v, e, hu, hv => by
    show anyB (pK p) _ = true ↔ _
    rw [anyB_true]
    constructor
    · rintro ⟨r, hr, h⟩
      simp only [Bool.and_eq_true, decide_eq_true_eq] at h
      obtain ⟨⟨⟨h1, h2⟩, h3⟩, h4⟩ := h
      obtain ⟨l, g1, g2, g3, g4, g5, g6⟩ := (EB_iff p s s0 s1 n (some r) _ _ e h2 h3).mp h4
      refine ⟨r :: l, by simp [g1], ⟨h1, g2⟩, fun x hx => ?_, ?_, ?_, by rw [lastL_cons]; exact g6⟩
      · rcases List.mem_cons.mp hx with h | h
        · rw [h]; exact hr
        · exact g3 x h
      · show u + (tkc p r 0 + useL p 0 l) ≤ s0
        omega
      · show v + (tkc p r 1 + useL p 1 l) ≤ s1
        omega
    · rintro ⟨l, h1, h2, h3, h4, h5, h6⟩
      cases l with
      | nil => simp at h1
      | cons r l =>
        have h4 : u + (tkc p r 0 + useL p 0 l) ≤ s0 := h4
        have h5 : v + (tkc p r 1 + useL p 1 l) ≤ s1 := h5
        refine ⟨r, h3 r (by simp), ?_⟩
        simp only [Bool.and_eq_true, decide_eq_true_eq]
        refine ⟨⟨⟨h2.1, by omega⟩, by omega⟩, (EB_iff p s s0 s1 n (some r) _ _ e (by omega) (by omega)).mpr ⟨l, by simpa using h1, h2.2, fun x hx => h3 x (by simp [hx]), by omega, by omega, by rw [← lastL_cons o]; exact h6⟩⟩
theorem FWL_EB {p : Pl} {s s0 s1 n : Nat} {o : Option Nat} {e : Nat} (hn : 1 ≤ n) : (∃ a b, FWL p (fol p s) (folO p s o) s0 s1 n a b e) ↔ EB p s s0 s1 n o 0 0 e = true := by
  rw [EB_iff p s s0 s1 n o 0 0 e (Nat.zero_le _) (Nat.zero_le _)]
  constructor
  · rintro ⟨a, b, l, h1, h2, h3, h4, h5, h6, h7, h8⟩
    exact ⟨l, h1, h2, h3, by omega, by omega, by unfold lastL; rw [h8]⟩
  · rintro ⟨l, h1, h2, h3, h4, h5, h6⟩
    have hne : l ≠ [] := by intro z; subst z; simp at h1; omega
    obtain ⟨r, hr⟩ : ∃ r, l.getLast? = some r := ⟨_, List.getLast?_eq_some_getLast hne⟩
    unfold lastL at h6
    rw [hr] at h6
    cases h6
    exact ⟨_, _, l, h1, h2, h3, rfl, rfl, by omega, by omega, hr⟩
theorem EB_lt {p : Pl} {s s0 s1 n : Nat} {o : Option Nat} {e : Nat} (ho : ∀ r, o = some r → r < pK p) (h : EB p s s0 s1 n o 0 0 e = true) : e < pK p := by
  by_cases hn : 1 ≤ n
  · obtain ⟨a, b, h⟩ := (FWL_EB hn).mpr h
    exact (FWL_lt h).1
  · have : n = 0 := by omega
    subst this
    exact ho e (of_decide_eq_true h)
def fo (f : Nat) : Option Nat := if f = 8 then none else some f
theorem fo_oM (o : Option Nat) (h : ∀ r, o = some r → r < 8) : ∃ f, f < 9 ∧ fo f = o ∧ oM o = n32 f := by
  cases o with
  | none => exact ⟨8, by decide, rfl, rfl⟩
  | some r =>
    have := h r rfl
    exact ⟨r, by omega, by simp [fo]; omega, rfl⟩
/-- cells of the table ahead of k hold what they should -/
def TBx (M : qM) (X : Nat) (p : Pl) (lo : Lo) (k : Nat) : Prop := ∀ s n f u v, s < 2 → n ≤ 24 → f < 9 → u ≤ lS lo s 0 → v ≤ lS lo s 1 → 22500 * s + (n * 900 + f * 100 + u * 10 + v) < k → ∀ i, bt (vi M (X + 5) (22500 * s + (n * 900 + f * 100 + u * 10 + v))) i = EB p s (lS lo s 0) (lS lo s 1) n (fo f) u v i
theorem TBx.jump {M : qM} {X : Nat} {p : Pl} {lo : Lo} {k k2 : Nat} (h : TBx M X p lo k) (j : ∀ s n f u v, s < 2 → n ≤ 24 → f < 9 → u ≤ lS lo s 0 → v ≤ lS lo s 1 → k ≤ 22500 * s + (n * 900 + f * 100 + u * 10 + v) → k2 ≤ 22500 * s + (n * 900 + f * 100 + u * 10 + v)) : TBx M X p lo k2 := fun s n f u v h1 h2 h3 h4 h5 h6 => h s n f u v h1 h2 h3 h4 h5 (Nat.lt_of_not_le fun z => by have := j s n f u v h1 h2 h3 h4 h5 z; omega)
theorem fol_ge {p : Pl} (O : PlOK p) {s f : Nat} (hf : pK p ≤ f) (r : Nat) : fol p s f r = false := by
  unfold fol
  have h1 : pNx p f r = false := by
    cases e : pNx p f r
    · rfl
    · exact absurd (O.nx f r e).1 (by omega)
  have h2 : pNx p r f = false := by
    cases e : pNx p r f
    · rfl
    · exact absurd (O.nx r f e).2 (by omega)
  split <;> simp [h1, h2]
section
variable {M : qM} {X C : Nat} {p : Pl} {lo : Lo}
theorem m_firstOf (h : MC M X C p lo) {r : Nat} (hr : r < pK p) : f_X10_firstOf [.ref X, .int (n32 r)] M = some (some (.int (n32 (tkc p r 0))), M) := by
  have hk := h.O.kinds
  have hc := h.O.col r hr
  have hcs := h.O.cols
  apply wF_eq
  unfold f_X10_firstOf b_X10_firstOf
  simp (disch := omega) only [w_eK, w_eI, w_eL, w_eR, w_eT, w_b1, w_b2, w_b0, w_b0L, w_gI, w_gL, w_gN, w_gR, w_aI, w_aL, w_aR, w_aLen, w_tern, w_and, w_or, w_vN, vI, vJ, vA, vS, w_cFv, w_cFs, w_toI, w_toL, w_toV, w_nO, w_nA, eZ, cNot, s_skip, s_brk, s_cnt, s_retV, s_seq, s_if, s_set1, s_setL, s_inc, s_putI, s_putZ, s_putL, s_putR, s_upI, s_AI, s_AL, s_AR, s_UA, s_exp, s_ret, s_retZ, s_scope, s_unBrk, s_sw, s_sup, sSetI, sSetR, sRetI, sRetL, f_of, argE_n, argE_i, argE_r, argE_l, argE_a, sto_0, sto_s, sto_n0, sto_ns, isL_i, isL_r, isL_n, isL_a, isL_l, isL_0, rcv_r, rcv_a, List.getElem?_cons_zero, List.getElem?_cons_succ, List.getElem?_nil, List.set_cons_zero, List.set_cons_succ, List.take_succ_cons, List.take_zero, List.take_nil, List.length_cons, List.length_nil, List.nil_append, List.cons_append, Nat.reduceAdd, Nat.reduceSub, Nat.reduceLT, Nat.reduceEqDiff, Nat.reduceLeDiff, Nat.zero_add, Nat.lt_irrefl, Nat.succ_sub_one, and_true, true_and, and_false, false_and, not_false_eq_true, not_true_eq_false, Bool.false_eq_true, if_true, if_false, reduceIte, decide_true, decide_false, decide_eq_true_eq, Option.some.injEq, and_self, Nat.add_one_sub_one, Nat.lt_add_one, Nat.zero_lt_succ, Value.int.injEq, Value.ref.injEq, Value.long.injEq, exists_eq_left', exists_eq_left, Sum.inl.injEq, Sum.inr.injEq, h.T.t, h.r3, h.D.t, h.D.r17, h.D.t9, n_iEq, n_iNe, n_iLt, n_iLe, n_iGt, n_iGe, n_zEq, n_zLt, n_zLe, n_zGt, n_zGe, n_inb, n32_clamp, h.V.col r hr]
  refine ⟨by omega, ?_⟩
  by_cases e : pCol p r = 0
  · simp (disch := omega) only [e, w_eK, w_eI, w_eL, w_eR, w_eT, w_b1, w_b2, w_b0, w_b0L, w_gI, w_gL, w_gN, w_gR, w_aI, w_aL, w_aR, w_aLen, w_tern, w_and, w_or, w_vN, vI, vJ, vA, vS, w_cFv, w_cFs, w_toI, w_toL, w_toV, w_nO, w_nA, eZ, cNot, s_skip, s_brk, s_cnt, s_retV, s_seq, s_if, s_set1, s_setL, s_inc, s_putI, s_putZ, s_putL, s_putR, s_upI, s_AI, s_AL, s_AR, s_UA, s_exp, s_ret, s_retZ, s_scope, s_unBrk, s_sw, s_sup, sSetI, sSetR, sRetI, sRetL, f_of, argE_n, argE_i, argE_r, argE_l, argE_a, sto_0, sto_s, sto_n0, sto_ns, isL_i, isL_r, isL_n, isL_a, isL_l, isL_0, rcv_r, rcv_a, List.getElem?_cons_zero, List.getElem?_cons_succ, List.getElem?_nil, List.set_cons_zero, List.set_cons_succ, List.take_succ_cons, List.take_zero, List.take_nil, List.length_cons, List.length_nil, List.nil_append, List.cons_append, Nat.reduceAdd, Nat.reduceSub, Nat.reduceLT, Nat.reduceEqDiff, Nat.reduceLeDiff, Nat.zero_add, Nat.lt_irrefl, Nat.succ_sub_one, and_true, true_and, and_false, false_and, not_false_eq_true, not_true_eq_false, Bool.false_eq_true, if_true, if_false, reduceIte, decide_true, decide_false, decide_eq_true_eq, Option.some.injEq, and_self, Nat.add_one_sub_one, Nat.lt_add_one, Nat.zero_lt_succ, Value.int.injEq, Value.ref.injEq, Value.long.injEq, exists_eq_left', exists_eq_left, Sum.inl.injEq, Sum.inr.injEq, h.T.t, h.r3, h.D.t, h.D.r18, h.D.t10, n_iEq, n_iNe, n_iLt, n_iLe, n_iGt, n_iGe, n_zEq, n_zLt, n_zLe, n_zGt, n_zGe, n_inb, n32_clamp, h.V.tk r hr, tkc]
    omega
  · simp only [e, w_eK, w_eI, w_eL, w_eR, w_eT, w_b1, w_b2, w_b0, w_b0L, w_gI, w_gL, w_gN, w_gR, w_aI, w_aL, w_aR, w_aLen, w_tern, w_and, w_or, w_vN, vI, vJ, vA, vS, w_cFv, w_cFs, w_toI, w_toL, w_toV, w_nO, w_nA, eZ, cNot, s_skip, s_brk, s_cnt, s_retV, s_seq, s_if, s_set1, s_setL, s_inc, s_putI, s_putZ, s_putL, s_putR, s_upI, s_AI, s_AL, s_AR, s_UA, s_exp, s_ret, s_retZ, s_scope, s_unBrk, s_sw, s_sup, sSetI, sSetR, sRetI, sRetL, f_of, argE_n, argE_i, argE_r, argE_l, argE_a, sto_0, sto_s, sto_n0, sto_ns, isL_i, isL_r, isL_n, isL_a, isL_l, isL_0, rcv_r, rcv_a, List.getElem?_cons_zero, List.getElem?_cons_succ, List.getElem?_nil, List.set_cons_zero, List.set_cons_succ, List.take_succ_cons, List.take_zero, List.take_nil, List.length_cons, List.length_nil, List.nil_append, List.cons_append, Nat.reduceAdd, Nat.reduceSub, Nat.reduceLT, Nat.reduceEqDiff, Nat.reduceLeDiff, Nat.zero_add, Nat.lt_irrefl, Nat.succ_sub_one, and_true, true_and, and_false, false_and, not_false_eq_true, not_true_eq_false, Bool.false_eq_true, if_true, if_false, reduceIte, decide_true, decide_false, decide_eq_true_eq, Option.some.injEq, and_self, Nat.add_one_sub_one, Nat.lt_add_one, Nat.zero_lt_succ, Value.int.injEq, Value.ref.injEq, Value.long.injEq, exists_eq_left', exists_eq_left, Sum.inl.injEq, Sum.inr.injEq, tkc]
    rfl
theorem m_secondOf (h : MC M X C p lo) {r : Nat} (hr : r < pK p) : f_X10_secondOf [.ref X, .int (n32 r)] M = some (some (.int (n32 (tkc p r 1))), M) := by
  have hk := h.O.kinds
  have hc := h.O.col r hr
  have hcs := h.O.cols
  apply wF_eq
  unfold f_X10_secondOf b_X10_secondOf
  simp (disch := omega) only [w_eK, w_eI, w_eL, w_eR, w_eT, w_b1, w_b2, w_b0, w_b0L, w_gI, w_gL, w_gN, w_gR, w_aI, w_aL, w_aR, w_aLen, w_tern, w_and, w_or, w_vN, vI, vJ, vA, vS, w_cFv, w_cFs, w_toI, w_toL, w_toV, w_nO, w_nA, eZ, cNot, s_skip, s_brk, s_cnt, s_retV, s_seq, s_if, s_set1, s_setL, s_inc, s_putI, s_putZ, s_putL, s_putR, s_upI, s_AI, s_AL, s_AR, s_UA, s_exp, s_ret, s_retZ, s_scope, s_unBrk, s_sw, s_sup, sSetI, sSetR, sRetI, sRetL, f_of, argE_n, argE_i, argE_r, argE_l, argE_a, sto_0, sto_s, sto_n0, sto_ns, isL_i, isL_r, isL_n, isL_a, isL_l, isL_0, rcv_r, rcv_a, List.getElem?_cons_zero, List.getElem?_cons_succ, List.getElem?_nil, List.set_cons_zero, List.set_cons_succ, List.take_succ_cons, List.take_zero, List.take_nil, List.length_cons, List.length_nil, List.nil_append, List.cons_append, Nat.reduceAdd, Nat.reduceSub, Nat.reduceLT, Nat.reduceEqDiff, Nat.reduceLeDiff, Nat.zero_add, Nat.lt_irrefl, Nat.succ_sub_one, and_true, true_and, and_false, false_and, not_false_eq_true, not_true_eq_false, Bool.false_eq_true, if_true, if_false, reduceIte, decide_true, decide_false, decide_eq_true_eq, Option.some.injEq, and_self, Nat.add_one_sub_one, Nat.lt_add_one, Nat.zero_lt_succ, Value.int.injEq, Value.ref.injEq, Value.long.injEq, exists_eq_left', exists_eq_left, Sum.inl.injEq, Sum.inr.injEq, l_0, l_1, l_2, l_3, l_4, l_5, l_6, l_7, l_8, l_9, l_10, l_12, l_20, l_23, l_24, l_25, l_32, l_48, l_60, l_100, l_200, l_255, l_900, n32_add, n32_mul, n32_inc, neg1, neg2, l_11, l_50, l_54, l_58, l_59, l_649, h.T.t, h.r3, h.D.t, h.D.r17, h.D.t9, n_iEq, n_iNe, n_iLt, n_iLe, n_iGt, n_iGe, n_zEq, n_zLt, n_zLe, n_zGt, n_zGe, n_inb, n32_clamp, h.V.col r hr]
  refine ⟨by omega, ?_⟩
  by_cases e : pCol p r = 1
  · simp (disch := omega) only [e, w_eK, w_eI, w_eL, w_eR, w_eT, w_b1, w_b2, w_b0, w_b0L, w_gI, w_gL, w_gN, w_gR, w_aI, w_aL, w_aR, w_aLen, w_tern, w_and, w_or, w_vN, vI, vJ, vA, vS, w_cFv, w_cFs, w_toI, w_toL, w_toV, w_nO, w_nA, eZ, cNot, s_skip, s_brk, s_cnt, s_retV, s_seq, s_if, s_set1, s_setL, s_inc, s_putI, s_putZ, s_putL, s_putR, s_upI, s_AI, s_AL, s_AR, s_UA, s_exp, s_ret, s_retZ, s_scope, s_unBrk, s_sw, s_sup, sSetI, sSetR, sRetI, sRetL, f_of, argE_n, argE_i, argE_r, argE_l, argE_a, sto_0, sto_s, sto_n0, sto_ns, isL_i, isL_r, isL_n, isL_a, isL_l, isL_0, rcv_r, rcv_a, List.getElem?_cons_zero, List.getElem?_cons_succ, List.getElem?_nil, List.set_cons_zero, List.set_cons_succ, List.take_succ_cons, List.take_zero, List.take_nil, List.length_cons, List.length_nil, List.nil_append, List.cons_append, Nat.reduceAdd, Nat.reduceSub, Nat.reduceLT, Nat.reduceEqDiff, Nat.reduceLeDiff, Nat.zero_add, Nat.lt_irrefl, Nat.succ_sub_one, and_true, true_and, and_false, false_and, not_false_eq_true, not_true_eq_false, Bool.false_eq_true, if_true, if_false, reduceIte, decide_true, decide_false, decide_eq_true_eq, Option.some.injEq, and_self, Nat.add_one_sub_one, Nat.lt_add_one, Nat.zero_lt_succ, Value.int.injEq, Value.ref.injEq, Value.long.injEq, exists_eq_left', exists_eq_left, Sum.inl.injEq, Sum.inr.injEq, h.T.t, h.r3, h.D.t, h.D.r18, h.D.t10, n_iEq, n_iNe, n_iLt, n_iLe, n_iGt, n_iGe, n_zEq, n_zLt, n_zLe, n_zGt, n_zGe, n_inb, n32_clamp, h.V.tk r hr, tkc]
    omega
  · simp only [e, w_eK, w_eI, w_eL, w_eR, w_eT, w_b1, w_b2, w_b0, w_b0L, w_gI, w_gL, w_gN, w_gR, w_aI, w_aL, w_aR, w_aLen, w_tern, w_and, w_or, w_vN, vI, vJ, vA, vS, w_cFv, w_cFs, w_toI, w_toL, w_toV, w_nO, w_nA, eZ, cNot, s_skip, s_brk, s_cnt, s_retV, s_seq, s_if, s_set1, s_setL, s_inc, s_putI, s_putZ, s_putL, s_putR, s_upI, s_AI, s_AL, s_AR, s_UA, s_exp, s_ret, s_retZ, s_scope, s_unBrk, s_sw, s_sup, sSetI, sSetR, sRetI, sRetL, f_of, argE_n, argE_i, argE_r, argE_l, argE_a, sto_0, sto_s, sto_n0, sto_ns, isL_i, isL_r, isL_n, isL_a, isL_l, isL_0, rcv_r, rcv_a, List.getElem?_cons_zero, List.getElem?_cons_succ, List.getElem?_nil, List.set_cons_zero, List.set_cons_succ, List.take_succ_cons, List.take_zero, List.take_nil, List.length_cons, List.length_nil, List.nil_append, List.cons_append, Nat.reduceAdd, Nat.reduceSub, Nat.reduceLT, Nat.reduceEqDiff, Nat.reduceLeDiff, Nat.zero_add, Nat.lt_irrefl, Nat.succ_sub_one, and_true, true_and, and_false, false_and, not_false_eq_true, not_true_eq_false, Bool.false_eq_true, if_true, if_false, reduceIte, decide_true, decide_false, decide_eq_true_eq, Option.some.injEq, and_self, Nat.add_one_sub_one, Nat.lt_add_one, Nat.zero_lt_succ, Value.int.injEq, Value.ref.injEq, Value.long.injEq, exists_eq_left', exists_eq_left, Sum.inl.injEq, Sum.inr.injEq, tkc]
theorem m_store (h : MC M X C p lo) {s c : Nat} (hs : s < 2) (hc : c < 2) : f_X10_store [.ref X, .int (n32 s), .int (n32 c)] M = some (some (.int (n32 (lS lo s c))), M) := by
  have hw := h.W.st0 hs hc
  apply wF_eq
  unfold f_X10_store b_X10_store
  simp (disch := omega) only [w_eK, w_eI, w_eL, w_eR, w_eT, w_b1, w_b2, w_b0, w_b0L, w_gI, w_gL, w_gN, w_gR, w_aI, w_aL, w_aR, w_aLen, w_tern, w_and, w_or, w_vN, vI, vJ, vA, vS, w_cFv, w_cFs, w_toI, w_toL, w_toV, w_nO, w_nA, eZ, cNot, s_skip, s_brk, s_cnt, s_retV, s_seq, s_if, s_set1, s_setL, s_inc, s_putI, s_putZ, s_putL, s_putR, s_upI, s_AI, s_AL, s_AR, s_UA, s_exp, s_ret, s_retZ, s_scope, s_unBrk, s_sw, s_sup, sSetI, sSetR, sRetI, sRetL, f_of, argE_n, argE_i, argE_r, argE_l, argE_a, sto_0, sto_s, sto_n0, sto_ns, isL_i, isL_r, isL_n, isL_a, isL_l, isL_0, rcv_r, rcv_a, List.getElem?_cons_zero, List.getElem?_cons_succ, List.getElem?_nil, List.set_cons_zero, List.set_cons_succ, List.take_succ_cons, List.take_zero, List.take_nil, List.length_cons, List.length_nil, List.nil_append, List.cons_append, Nat.reduceAdd, Nat.reduceSub, Nat.reduceLT, Nat.reduceEqDiff, Nat.reduceLeDiff, Nat.zero_add, Nat.lt_irrefl, Nat.succ_sub_one, and_true, true_and, and_false, false_and, not_false_eq_true, not_true_eq_false, Bool.false_eq_true, if_true, if_false, reduceIte, decide_true, decide_false, decide_eq_true_eq, Option.some.injEq, and_self, Nat.add_one_sub_one, Nat.lt_add_one, Nat.zero_lt_succ, Value.int.injEq, Value.ref.injEq, Value.long.injEq, exists_eq_left', exists_eq_left, Sum.inl.injEq, Sum.inr.injEq, l_0, l_1, l_2, l_3, l_4, l_5, l_6, l_7, l_8, l_9, l_10, l_12, l_20, l_23, l_24, l_25, l_32, l_48, l_60, l_100, l_200, l_255, l_900, n32_add, n32_mul, n32_inc, neg1, neg2, l_11, l_50, l_54, l_58, l_59, l_649, h.T.t, h.T.r16, h.T.t2, n_iEq, n_iNe, n_iLt, n_iLe, n_iGt, n_iGe, n_zEq, n_zLt, n_zLe, n_zGt, n_zGe, n_inb, n32_clamp, Nat.add_assoc, hw]
  omega
end
