/-! THE CLASS TELLS THE ROWS -/
def alB (p : Pl) (s z r : Nat) : Bool := if s = 0 then pNx p z r else (pNx p z r && !pSm p r)
def alW (p : Pl) (s : Nat) (al0 : Nat → Bool) (w : List Nat) (r : Nat) : Bool := match w.getLast? with | none => al0 r | some z => alB p s z r
theorem alW_snoc (p : Pl) (s : Nat) (al0 : Nat → Bool) (w : List Nat) (z r : Nat) : alW p s al0 (w ++ [z]) r = alB p s z r := by
  unfold alW
  rw [List.getLast?_append]
  rfl
theorem Ext_chw {p : Pl} {lo : Lo} {i j a b : Nat} {w : List Nat} (hw : w.length ≤ a) (h : Ext (VT p lo i j a b) w) : chL p lo 0 i w := by
  obtain ⟨u, l, r, e, l1, r1, c1, -⟩ := h
  have := congrArg (List.take a) e
  rw [List.take_append, List.take_of_length_le hw] at this
  have h2 : (l ++ r.reverse).take a = l := by rw [← l1]; simp
  rw [h2] at this
  rw [← this] at c1
  exact chL_pre c1
theorem lastL_last (o : Option Nat) {w : List Nat} {z : Nat} (h : w.getLast? = some z) : lastL o w = some z := by
  unfold lastL
  rw [h]
theorem lastL_none (o : Option Nat) {w : List Nat} (h : w.getLast? = none) : lastL o w = o := by
  unfold lastL
  rw [h]
theorem H_left {p : Pl} {lo : Lo} (O : PlOK p) {i j a b : Nat} {ml : Nat → Bool} (hml : ∀ e, ml e = true ↔ e < pK p ∧ EL p lo 0 i a e = true ∧ ∃ q, EL p lo 1 j b q = true ∧ pNx p e q = true) {w : List Nat} {r : Nat} (hw : w.length < a) (hE : Ext (VT p lo i j a b) w) : (alW p 0 (folO p 0 (lastO lo 0 i)) w r = true ∧ ∃ x y, x + useL p 0 w ≤ lS lo 0 0 ∧ y + useL p 1 w ≤ lS lo 0 1 ∧ spC p (bckR p) ml (lS lo 0 0) (lS lo 0 1) a (a - w.length) x y r) ↔ Ext (VT p lo i j a b) (w ++ [r]) := by
  have hc := Ext_chw (by omega) hE
  have hS : ∀ x y, bckR p x y = fol p 0 y x := fun x y => by
    unfold bckR fol
    rw [if_pos rfl, Bool.and_comm]
  obtain ⟨r0, hL, -⟩ := Ext_step hE (by omega)
  have f0 := ((left_core hw hc).mp hL.1).1
  have al : alW p 0 (folO p 0 (lastO lo 0 i)) w r = folO p 0 (lastL (lastO lo 0 i) w) r := by
    unfold alW
    cases e : w.getLast? with
    | none => rw [lastL_none _ e]
    | some z =>
      rw [lastL_last _ e] at f0 ⊢
      have f0 : fol p 0 z r0 = true := f0
      show alB p 0 z r = fol p 0 z r
      unfold alB fol at *
      cases q : pSm p z
      · simp
      · rw [q] at f0; cases f0
  rw [al]
  constructor
  · rintro ⟨h1, x, y, h2, h3, -, c, k1, k2, k3, rfl, rfl, k6, k7, k8⟩
    obtain ⟨c', rfl⟩ := snoc_of k8
    have e : c' ++ [r] = (r :: c'.reverse).reverse := by simp
    rw [e] at k2
    obtain ⟨k9, e0, k10, k11⟩ := (pthR_rev (fol p 0) (bckR p) hS ml r c'.reverse).mp k2
    obtain ⟨-, -, q, k12, k13⟩ := (hml e0).mp k11
    rw [left_core hw hc]
    refine ⟨h1, k3 r (by simp), c'.reverse, e0, q, by simp at k1 ⊢; omega, k9, fun z hz => k3 z (by simp at hz; simp [hz]), ?_, ?_, ?_, k12, k13⟩
    · rw [useL_rev, ← Nat.add_comm (useL p 0 c'), ← useL_snoc]; omega
    · rw [useL_rev, ← Nat.add_comm (useL p 1 c'), ← useL_snoc]; omega
    · rw [← lastL_cons none]
      exact lastL_last _ k10
  · intro hx
    obtain ⟨l2, e0, q0, g1, g2, g3, g4, g5⟩ := (Ext_left hw).mp hx
    obtain ⟨h1, h2, l2', e', q', k1, k2, k3, k4, k5, k6, k7, k8⟩ := (left_core hw hc).mp hx
    have full : chL p lo 0 i (w ++ r :: l2') := by
      refine ⟨?_, ?_, ?_, ?_⟩
      · rw [pthR_app, nxt_folO]; exact ⟨hc.1, h1, k2⟩
      · intro z hz
        rcases List.mem_append.mp hz with hz | hz
        · exact hc.2.1 z hz
        · rcases List.mem_cons.mp hz with hz | hz
          · rw [hz]; exact h2
          · exact k3 z hz
      · rw [useL_app, useL_cons]; exact k4
      · rw [useL_app, useL_cons]; exact k5
    have gl : (r :: l2').getLast? = some e' := by
      rw [← lastL_cons none] at k6
      unfold lastL at k6
      cases z : (r :: l2').getLast? with
      | none => simp at z
      | some y => rw [z] at k6; exact k6
    have le : lastL (lastO lo 0 i) (w ++ r :: l2') = some e' := by
      apply lastL_last
      rw [List.getLast?_append, gl]; rfl
    have el : EL p lo 0 i a e' = true := EL_chn.mpr ⟨w ++ r :: l2', by simp; omega, full, le⟩
    have ek : e' < pK p := full.2.1 e' (List.mem_append_right _ (List.mem_of_getLast? gl))
    refine ⟨h1, useL p 0 (r :: l2'), useL p 1 (r :: l2'), by rw [useL_cons]; omega, by rw [useL_cons]; omega, by omega, (r :: l2').reverse, by simp; omega, (pthR_rev (fol p 0) (bckR p) hS ml r l2').mpr ⟨k2, e', gl, (hml e').mpr ⟨ek, el, q', k7, k8⟩⟩, ?_, useL_rev _ _ _, useL_rev _ _ _, by rw [useL_cons]; omega, by rw [useL_cons]; omega, by simp⟩
    intro z hz
    rcases List.mem_cons.mp (List.mem_reverse.mp hz) with hz | hz
    · rw [hz]; exact h2
    · exact k3 z hz
theorem H_right {p : Pl} {lo : Lo} {i j a b : Nat} {l w : List Nat} {r x : Nat} (hl : l.length = a) (hw : w.length < b) (hc : chL p lo 0 i l) (hx : lastL (lastO lo 0 i) l = some x) (hE : Ext (VT p lo i j a b) (l ++ w)) : (alW p 1 (pNx p x) w r = true ∧ ∃ u v, u + useL p 0 w ≤ lS lo 1 0 ∧ v + useL p 1 w ≤ lS lo 1 1 ∧ spC p (fol p 1) (folO p 1 (lastO lo 1 j)) (lS lo 1 0) (lS lo 1 1) b (b - w.length) u v r) ↔ Ext (VT p lo i j a b) (l ++ w ++ [r]) := by
  rw [right_core hl hw hc hx hE]
  have ca : alW p 1 (pNx p x) w r = true ↔ cA p x w r := by
    unfold alW cA
    cases w.getLast? with
    | none => exact Iff.rfl
    | some z =>
      show alB p 1 z r = true ↔ fol p 1 r z = true
      unfold alB fol
      rw [if_neg (by decide), if_neg (by decide), Bool.and_comm]
  rw [ca]
  refine and_congr_right fun _ => exists_congr fun u => exists_congr fun v => and_congr_right fun _ => and_congr_right fun _ => ?_
  unfold spC FW1
  exact ⟨fun z => z.2, fun z => ⟨by omega, z⟩⟩
section
variable {M : qM} {B P L : Nat} {p : Pl} {lo : Lo} {K : Nat}
theorem q_firstEnd (S : ScrT M B) {s0 s1 lg : Nat} {ce : Nat → Nat → Nat → Nat → Prop} {la : Nat → Nat → Prop} (W : WV M B s0 s1 ce la lg) {n u0 u1 : Nat} (hn : n ≤ 24) (h0 : u0 ≤ s0) (h1 : u1 ≤ s1) (al : Int32) {r : Nat} (hr : r < 8) (ok : bt al r = true ∧ ∃ x y, x + u0 ≤ s0 ∧ y + u1 ≤ s1 ∧ ce n x y r) (least : ∀ q, q < r → ¬ (bt al q = true ∧ ∃ x y, x + u0 ≤ s0 ∧ y + u1 ≤ s1 ∧ ce n x y q)) : f_X7_firstEnd [.ref (B + 46), .int (n32 n), .int al, .int (n32 u0), .int (n32 u1)] M = some (some (.int (n32 r)), M) := by
  have b0 := W.b0
  have b1 := W.b1
  have key : hF f_X7_firstEnd [.ref (B + 46), .int (n32 n), .int al, .int (n32 u0), .int (n32 u1)] M (fun w M' => w = some (Value.int (n32 r)) ∧ M' = M) () := by
    delta f_X7_firstEnd b_X7_firstEnd
    simp only [hR_d, hT_d, hI_t, hI_f, hVI_s, hVL_s, hVR_s, hVT_s, hVV_s, hO_s, hB_0, hB_1, hB_2, hB_r, hU_0, hU_1, hU_2, hU_r, hX_r, hL_0, hL_1, hL_2, hL_r, hC_s, h_k0, h_k1, h_k2, h_k3, h_k4, h_k5, h_k6, h_k7, h_k8, h_k9, h_k10, h_k11, h_k12, h_k14, h_k16, h_k18, h_k20, h_k23, h_k24, h_k25, h_k32, h_k44, h_k48, h_k50, h_k54, h_k57, h_k58, h_k59, h_k60, h_k63, h_k97, h_k100, h_k122, h_k177, h_k255, h_k400, h_k450, h_k625, h_k649, h_k708, h_k800, h_k900, h_k2500, h_k22500, h_k45000, h_kn1, h_kn2, h_kJ, h_kU, h_eI, h_eL, h_eR, h_eT, h_b1, h_eZ, h_not, h_b2, h_b0, h_b0L, h_gI, h_gL, h_gN, h_gR, h_aI, h_aL, h_aR, h_aLen, h_tern, h_and, h_or, h_vN, h_vI, h_vJ, h_vA, h_cFv, h_cFs, h_toI, h_toL, h_toV, h_nO, h_nA, g_skip, g_brk, g_cnt, g_retV, g_seq, g_if, g_setI, g_setR, g_setL, g_inc, g_putI, g_putZ, g_putL, g_putR, g_upI, g_AI, g_AL, g_AR, g_UA, g_exp, g_retI, g_retL, g_retZ, g_scope, g_unBrk, g_sup, h_fn, argE_n, argE_i, argE_r, argE_l, argE_a, sto_0, sto_s, sto_n0, sto_ns, isL_i, isL_r, isL_n, isL_a, isL_l, isL_0, rcv_r, rcv_a, List.getElem?_cons_zero, List.getElem?_cons_succ, List.getElem?_nil, List.set_cons_zero, List.set_cons_succ, List.take_succ_cons, List.take_zero, List.take_nil, List.length_cons, List.length_nil, List.nil_append, List.cons_append, Nat.reduceAdd, Nat.reduceSub, Nat.reduceLT, Nat.reduceEqDiff, Nat.reduceLeDiff, Nat.zero_add, Nat.lt_irrefl, Nat.succ_sub_one, and_true, true_and, and_false, false_and, not_false_eq_true, not_true_eq_false, Bool.false_eq_true, Bool.not_true, Bool.not_false, Bool.not_eq_true', Bool.true_eq_false, decide_true, decide_false, decide_eq_true_eq, decide_eq_false_iff_not, Option.some.injEq, and_self, Nat.add_one_sub_one, Nat.lt_add_one, Nat.zero_lt_succ, Value.int.injEq, Value.ref.injEq, Value.long.injEq, exists_eq_left', exists_eq_left, Sum.inl.injEq, Sum.inr.injEq, i2z_b2i, n32_add, n32_mul, n32_inc]
    refine h_up (fun j e m => ∃ x, e = [.ref (B + 46), .int (n32 n), .int al, .int (n32 u0), .int (n32 u1), .int x, .int (n32 j)] ∧ m = M ∧ ∀ i, bt x i = true ↔ ∃ a c, a < j ∧ c + u1 ≤ s1 ∧ ce n a c i) (s0 - u0 + 1) ⟨n32 0, rfl, rfl, fun i => by rw [k_0, bt_zero]; exact ⟨fun z => (by cases z), fun ⟨a, c, z, _⟩ => by omega⟩⟩ ?_ ?_
    · rintro j e m hj ⟨x, rfl, rfl, J⟩
      simp (disch := omega) only [hR_d, hT_d, hI_t, hI_f, hVI_s, hVL_s, hVR_s, hVT_s, hVV_s, hO_s, hB_0, hB_1, hB_2, hB_r, hU_0, hU_1, hU_2, hU_r, hX_r, hL_0, hL_1, hL_2, hL_r, hC_s, h_k0, h_k1, h_k2, h_k3, h_k4, h_k5, h_k6, h_k7, h_k8, h_k9, h_k10, h_k11, h_k12, h_k14, h_k16, h_k18, h_k20, h_k23, h_k24, h_k25, h_k32, h_k44, h_k48, h_k50, h_k54, h_k57, h_k58, h_k59, h_k60, h_k63, h_k97, h_k100, h_k122, h_k177, h_k255, h_k400, h_k450, h_k625, h_k649, h_k708, h_k800, h_k900, h_k2500, h_k22500, h_k45000, h_kn1, h_kn2, h_kJ, h_kU, h_eI, h_eL, h_eR, h_eT, h_b1, h_eZ, h_not, h_b2, h_b0, h_b0L, h_gI, h_gL, h_gN, h_gR, h_aI, h_aL, h_aR, h_aLen, h_tern, h_and, h_or, h_vN, h_vI, h_vJ, h_vA, h_cFv, h_cFs, h_toI, h_toL, h_toV, h_nO, h_nA, g_skip, g_brk, g_cnt, g_retV, g_seq, g_if, g_setI, g_setR, g_setL, g_inc, g_putI, g_putZ, g_putL, g_putR, g_upI, g_AI, g_AL, g_AR, g_UA, g_exp, g_retI, g_retL, g_retZ, g_scope, g_unBrk, g_sup, h_fn, argE_n, argE_i, argE_r, argE_l, argE_a, sto_0, sto_s, sto_n0, sto_ns, isL_i, isL_r, isL_n, isL_a, isL_l, isL_0, rcv_r, rcv_a, List.getElem?_cons_zero, List.getElem?_cons_succ, List.getElem?_nil, List.set_cons_zero, List.set_cons_succ, List.take_succ_cons, List.take_zero, List.take_nil, List.length_cons, List.length_nil, List.nil_append, List.cons_append, Nat.reduceAdd, Nat.reduceSub, Nat.reduceLT, Nat.reduceEqDiff, Nat.reduceLeDiff, Nat.zero_add, Nat.lt_irrefl, Nat.succ_sub_one, and_true, true_and, and_false, false_and, not_false_eq_true, not_true_eq_false, Bool.false_eq_true, Bool.not_true, Bool.not_false, Bool.not_eq_true', Bool.true_eq_false, decide_true, decide_false, decide_eq_true_eq, decide_eq_false_iff_not, Option.some.injEq, and_self, Nat.add_one_sub_one, Nat.lt_add_one, Nat.zero_lt_succ, Value.int.injEq, Value.ref.injEq, Value.long.injEq, exists_eq_left', exists_eq_left, Sum.inl.injEq, Sum.inr.injEq, i2z_b2i, n32_add, n32_mul, n32_inc, n_iEq, n_iNe, n_iLt, n_iLe, n_iGt, n_iGe, n_zEq, n_zLt, n_zLe, n_zGt, n_zGe, n_inb, n32_clamp, S.t46, S.w1, S.t48, W.v0, n32_sub, show j ≤ s0 - u0 by omega]
      refine h_up (fun k e m' => ∃ x, e = [.ref (B + 46), .int (n32 n), .int al, .int (n32 u0), .int (n32 u1), .int x, .int (n32 j), .int (n32 k)] ∧ m' = m ∧ ∀ i, bt x i = true ↔ ∃ a c, (a < j ∨ (a = j ∧ c < k)) ∧ c + u1 ≤ s1 ∧ ce n a c i) (s1 - u1 + 1) ⟨x, rfl, rfl, fun i => by rw [J]; exact ⟨fun ⟨a, c, z1, z2⟩ => ⟨a, c, Or.inl z1, z2⟩, fun ⟨a, c, z1, z2⟩ => ⟨a, c, by omega, z2⟩⟩⟩ ?_ ?_
      · rintro k e m' hk ⟨x, rfl, rfl, J⟩
        simp (disch := omega) only [hR_d, hT_d, hI_t, hI_f, hVI_s, hVL_s, hVR_s, hVT_s, hVV_s, hO_s, hB_0, hB_1, hB_2, hB_r, hU_0, hU_1, hU_2, hU_r, hX_r, hL_0, hL_1, hL_2, hL_r, hC_s, h_k0, h_k1, h_k2, h_k3, h_k4, h_k5, h_k6, h_k7, h_k8, h_k9, h_k10, h_k11, h_k12, h_k14, h_k16, h_k18, h_k20, h_k23, h_k24, h_k25, h_k32, h_k44, h_k48, h_k50, h_k54, h_k57, h_k58, h_k59, h_k60, h_k63, h_k97, h_k100, h_k122, h_k177, h_k255, h_k400, h_k450, h_k625, h_k649, h_k708, h_k800, h_k900, h_k2500, h_k22500, h_k45000, h_kn1, h_kn2, h_kJ, h_kU, h_eI, h_eL, h_eR, h_eT, h_b1, h_eZ, h_not, h_b2, h_b0, h_b0L, h_gI, h_gL, h_gN, h_gR, h_aI, h_aL, h_aR, h_aLen, h_tern, h_and, h_or, h_vN, h_vI, h_vJ, h_vA, h_cFv, h_cFs, h_toI, h_toL, h_toV, h_nO, h_nA, g_skip, g_brk, g_cnt, g_retV, g_seq, g_if, g_setI, g_setR, g_setL, g_inc, g_putI, g_putZ, g_putL, g_putR, g_upI, g_AI, g_AL, g_AR, g_UA, g_exp, g_retI, g_retL, g_retZ, g_scope, g_unBrk, g_sup, h_fn, argE_n, argE_i, argE_r, argE_l, argE_a, sto_0, sto_s, sto_n0, sto_ns, isL_i, isL_r, isL_n, isL_a, isL_l, isL_0, rcv_r, rcv_a, List.getElem?_cons_zero, List.getElem?_cons_succ, List.getElem?_nil, List.set_cons_zero, List.set_cons_succ, List.take_succ_cons, List.take_zero, List.take_nil, List.length_cons, List.length_nil, List.nil_append, List.cons_append, Nat.reduceAdd, Nat.reduceSub, Nat.reduceLT, Nat.reduceEqDiff, Nat.reduceLeDiff, Nat.zero_add, Nat.lt_irrefl, Nat.succ_sub_one, and_true, true_and, and_false, false_and, not_false_eq_true, not_true_eq_false, Bool.false_eq_true, Bool.not_true, Bool.not_false, Bool.not_eq_true', Bool.true_eq_false, decide_true, decide_false, decide_eq_true_eq, decide_eq_false_iff_not, Option.some.injEq, and_self, Nat.add_one_sub_one, Nat.lt_add_one, Nat.zero_lt_succ, Value.int.injEq, Value.ref.injEq, Value.long.injEq, exists_eq_left', exists_eq_left, Sum.inl.injEq, Sum.inr.injEq, i2z_b2i, n32_add, n32_mul, n32_inc, n_iEq, n_iNe, n_iLt, n_iLe, n_iGt, n_iGe, n_zEq, n_zLt, n_zLe, n_zGt, n_zGe, n_inb, n32_clamp, S.t46, S.w1, S.t48, W.v1, n32_sub, show k ≤ s1 - u1 by omega, S.w2, S.t49]
        refine ⟨by omega, _, rfl, fun i => ?_⟩
        rw [bt_or, Bool.or_eq_true, J, W.ce n j k hn (by omega) (by omega)]
        constructor
        · rintro (⟨a, c, z1, z2⟩ | z)
          · exact ⟨a, c, by omega, z2⟩
          · exact ⟨j, k, by omega, by omega, z⟩
        · rintro ⟨a, c, z1, z2, z3⟩
          by_cases e : a = j ∧ c = k
          · obtain ⟨rfl, rfl⟩ := e
            exact Or.inr z3
          · exact Or.inl ⟨a, c, by omega, z2, z3⟩
      · rintro e m' ⟨x, rfl, rfl, J⟩
        simp (disch := omega) only [hR_d, hT_d, hI_t, hI_f, hVI_s, hVL_s, hVR_s, hVT_s, hVV_s, hO_s, hB_0, hB_1, hB_2, hB_r, hU_0, hU_1, hU_2, hU_r, hX_r, hL_0, hL_1, hL_2, hL_r, hC_s, h_k0, h_k1, h_k2, h_k3, h_k4, h_k5, h_k6, h_k7, h_k8, h_k9, h_k10, h_k11, h_k12, h_k14, h_k16, h_k18, h_k20, h_k23, h_k24, h_k25, h_k32, h_k44, h_k48, h_k50, h_k54, h_k57, h_k58, h_k59, h_k60, h_k63, h_k97, h_k100, h_k122, h_k177, h_k255, h_k400, h_k450, h_k625, h_k649, h_k708, h_k800, h_k900, h_k2500, h_k22500, h_k45000, h_kn1, h_kn2, h_kJ, h_kU, h_eI, h_eL, h_eR, h_eT, h_b1, h_eZ, h_not, h_b2, h_b0, h_b0L, h_gI, h_gL, h_gN, h_gR, h_aI, h_aL, h_aR, h_aLen, h_tern, h_and, h_or, h_vN, h_vI, h_vJ, h_vA, h_cFv, h_cFs, h_toI, h_toL, h_toV, h_nO, h_nA, g_skip, g_brk, g_cnt, g_retV, g_seq, g_if, g_setI, g_setR, g_setL, g_inc, g_putI, g_putZ, g_putL, g_putR, g_upI, g_AI, g_AL, g_AR, g_UA, g_exp, g_retI, g_retL, g_retZ, g_scope, g_unBrk, g_sup, h_fn, argE_n, argE_i, argE_r, argE_l, argE_a, sto_0, sto_s, sto_n0, sto_ns, isL_i, isL_r, isL_n, isL_a, isL_l, isL_0, rcv_r, rcv_a, List.getElem?_cons_zero, List.getElem?_cons_succ, List.getElem?_nil, List.set_cons_zero, List.set_cons_succ, List.take_succ_cons, List.take_zero, List.take_nil, List.length_cons, List.length_nil, List.nil_append, List.cons_append, Nat.reduceAdd, Nat.reduceSub, Nat.reduceLT, Nat.reduceEqDiff, Nat.reduceLeDiff, Nat.zero_add, Nat.lt_irrefl, Nat.succ_sub_one, and_true, true_and, and_false, false_and, not_false_eq_true, not_true_eq_false, Bool.false_eq_true, Bool.not_true, Bool.not_false, Bool.not_eq_true', Bool.true_eq_false, decide_true, decide_false, decide_eq_true_eq, decide_eq_false_iff_not, Option.some.injEq, and_self, Nat.add_one_sub_one, Nat.lt_add_one, Nat.zero_lt_succ, Value.int.injEq, Value.ref.injEq, Value.long.injEq, exists_eq_left', exists_eq_left, Sum.inl.injEq, Sum.inr.injEq, i2z_b2i, n32_add, n32_mul, n32_inc, n_iEq, n_iNe, n_iLt, n_iLe, n_iGt, n_iGe, n_zEq, n_zLt, n_zLe, n_zGt, n_zGe, n_inb, n32_clamp, S.t46, S.w1, S.t48, W.v1, n32_sub, show ¬ s1 - u1 + 1 ≤ s1 - u1 by omega]
        refine ⟨x, rfl, fun i => ?_⟩
        rw [J]
        constructor
        · rintro ⟨a, c, z1, z2⟩; exact ⟨a, c, by omega, z2⟩
        · rintro ⟨a, c, z1, z2, z3⟩; exact ⟨a, c, by omega, z2, z3⟩
    · rintro e m ⟨x, rfl, rfl, J⟩
      have J' : ∀ i, bt x i = true ↔ ∃ a c, a + u0 ≤ s0 ∧ c + u1 ≤ s1 ∧ ce n a c i := fun i => by
        rw [J]
        constructor
        · rintro ⟨a, c, z1, z2⟩; exact ⟨a, c, by omega, z2⟩
        · rintro ⟨a, c, z1, z2⟩; exact ⟨a, c, by omega, z2⟩
      simp (disch := omega) only [hR_d, hT_d, hI_t, hI_f, hVI_s, hVL_s, hVR_s, hVT_s, hVV_s, hO_s, hB_0, hB_1, hB_2, hB_r, hU_0, hU_1, hU_2, hU_r, hX_r, hL_0, hL_1, hL_2, hL_r, hC_s, h_k0, h_k1, h_k2, h_k3, h_k4, h_k5, h_k6, h_k7, h_k8, h_k9, h_k10, h_k11, h_k12, h_k14, h_k16, h_k18, h_k20, h_k23, h_k24, h_k25, h_k32, h_k44, h_k48, h_k50, h_k54, h_k57, h_k58, h_k59, h_k60, h_k63, h_k97, h_k100, h_k122, h_k177, h_k255, h_k400, h_k450, h_k625, h_k649, h_k708, h_k800, h_k900, h_k2500, h_k22500, h_k45000, h_kn1, h_kn2, h_kJ, h_kU, h_eI, h_eL, h_eR, h_eT, h_b1, h_eZ, h_not, h_b2, h_b0, h_b0L, h_gI, h_gL, h_gN, h_gR, h_aI, h_aL, h_aR, h_aLen, h_tern, h_and, h_or, h_vN, h_vI, h_vJ, h_vA, h_cFv, h_cFs, h_toI, h_toL, h_toV, h_nO, h_nA, g_skip, g_brk, g_cnt, g_retV, g_seq, g_if, g_setI, g_setR, g_setL, g_inc, g_putI, g_putZ, g_putL, g_putR, g_upI, g_AI, g_AL, g_AR, g_UA, g_exp, g_retI, g_retL, g_retZ, g_scope, g_unBrk, g_sup, h_fn, argE_n, argE_i, argE_r, argE_l, argE_a, sto_0, sto_s, sto_n0, sto_ns, isL_i, isL_r, isL_n, isL_a, isL_l, isL_0, rcv_r, rcv_a, List.getElem?_cons_zero, List.getElem?_cons_succ, List.getElem?_nil, List.set_cons_zero, List.set_cons_succ, List.take_succ_cons, List.take_zero, List.take_nil, List.length_cons, List.length_nil, List.nil_append, List.cons_append, Nat.reduceAdd, Nat.reduceSub, Nat.reduceLT, Nat.reduceEqDiff, Nat.reduceLeDiff, Nat.zero_add, Nat.lt_irrefl, Nat.succ_sub_one, and_true, true_and, and_false, false_and, not_false_eq_true, not_true_eq_false, Bool.false_eq_true, Bool.not_true, Bool.not_false, Bool.not_eq_true', Bool.true_eq_false, decide_true, decide_false, decide_eq_true_eq, decide_eq_false_iff_not, Option.some.injEq, and_self, Nat.add_one_sub_one, Nat.lt_add_one, Nat.zero_lt_succ, Value.int.injEq, Value.ref.injEq, Value.long.injEq, exists_eq_left', exists_eq_left, Sum.inl.injEq, Sum.inr.injEq, i2z_b2i, n32_add, n32_mul, n32_inc, n_iEq, n_iNe, n_iLt, n_iLe, n_iGt, n_iGe, n_zEq, n_zLt, n_zLe, n_zGt, n_zGe, n_inb, n32_clamp, S.t46, S.w1, S.t48, W.v0, n32_sub, show ¬ s0 - u0 + 1 ≤ s0 - u0 by omega]
      refine h_dn (fun k e m' => ∃ j, e = [.ref (B + 46), .int (n32 n), .int al, .int (n32 u0), .int (n32 u1), .int x, .int (n32 j)] ∧ m' = m ∧ j + k = r) r ⟨0, rfl, rfl, by omega⟩ ?_
      rintro k e m' ⟨j, rfl, rfl, hj⟩
      by_cases e : j = r
      · subst e
        have ex : bt (x &&& al) j = true := by rw [bt_and, (J' j).mpr ok.2, ok.1]; rfl
        simp (disch := omega) only [hR_d, hT_d, hI_t, hI_f, hVI_s, hVL_s, hVR_s, hVT_s, hVV_s, hO_s, hB_0, hB_1, hB_2, hB_r, hU_0, hU_1, hU_2, hU_r, hX_r, hL_0, hL_1, hL_2, hL_r, hC_s, h_k0, h_k1, h_k2, h_k3, h_k4, h_k5, h_k6, h_k7, h_k8, h_k9, h_k10, h_k11, h_k12, h_k14, h_k16, h_k18, h_k20, h_k23, h_k24, h_k25, h_k32, h_k44, h_k48, h_k50, h_k54, h_k57, h_k58, h_k59, h_k60, h_k63, h_k97, h_k100, h_k122, h_k177, h_k255, h_k400, h_k450, h_k625, h_k649, h_k708, h_k800, h_k900, h_k2500, h_k22500, h_k45000, h_kn1, h_kn2, h_kJ, h_kU, h_eI, h_eL, h_eR, h_eT, h_b1, h_eZ, h_not, h_b2, h_b0, h_b0L, h_gI, h_gL, h_gN, h_gR, h_aI, h_aL, h_aR, h_aLen, h_tern, h_and, h_or, h_vN, h_vI, h_vJ, h_vA, h_cFv, h_cFs, h_toI, h_toL, h_toV, h_nO, h_nA, g_skip, g_brk, g_cnt, g_retV, g_seq, g_if, g_setI, g_setR, g_setL, g_inc, g_putI, g_putZ, g_putL, g_putR, g_upI, g_AI, g_AL, g_AR, g_UA, g_exp, g_retI, g_retL, g_retZ, g_scope, g_unBrk, g_sup, h_fn, argE_n, argE_i, argE_r, argE_l, argE_a, sto_0, sto_s, sto_n0, sto_ns, isL_i, isL_r, isL_n, isL_a, isL_l, isL_0, rcv_r, rcv_a, List.getElem?_cons_zero, List.getElem?_cons_succ, List.getElem?_nil, List.set_cons_zero, List.set_cons_succ, List.take_succ_cons, List.take_zero, List.take_nil, List.length_cons, List.length_nil, List.nil_append, List.cons_append, Nat.reduceAdd, Nat.reduceSub, Nat.reduceLT, Nat.reduceEqDiff, Nat.reduceLeDiff, Nat.zero_add, Nat.lt_irrefl, Nat.succ_sub_one, and_true, true_and, and_false, false_and, not_false_eq_true, not_true_eq_false, Bool.false_eq_true, Bool.not_true, Bool.not_false, Bool.not_eq_true', Bool.true_eq_false, decide_true, decide_false, decide_eq_true_eq, decide_eq_false_iff_not, Option.some.injEq, and_self, Nat.add_one_sub_one, Nat.lt_add_one, Nat.zero_lt_succ, Value.int.injEq, Value.ref.injEq, Value.long.injEq, exists_eq_left', exists_eq_left, Sum.inl.injEq, Sum.inr.injEq, i2z_b2i, n32_add, n32_mul, n32_inc, n_iEq, n_iNe, n_iLt, n_iLe, n_iGt, n_iGe, n_zEq, n_zLt, n_zLe, n_zGt, n_zGe, n_inb, n32_clamp, show j < 8 by omega, h_of (q_hasBit (x &&& al) (show j < 32 by omega) _), ex]
      · have ex : bt (x &&& al) j = false := by
          cases q : bt (x &&& al) j
          · rfl
          · rw [bt_and, Bool.and_eq_true, J'] at q
            exact absurd ⟨q.2, q.1⟩ (least j (by omega))
        simp (disch := omega) only [hR_d, hT_d, hI_t, hI_f, hVI_s, hVL_s, hVR_s, hVT_s, hVV_s, hO_s, hB_0, hB_1, hB_2, hB_r, hU_0, hU_1, hU_2, hU_r, hX_r, hL_0, hL_1, hL_2, hL_r, hC_s, h_k0, h_k1, h_k2, h_k3, h_k4, h_k5, h_k6, h_k7, h_k8, h_k9, h_k10, h_k11, h_k12, h_k14, h_k16, h_k18, h_k20, h_k23, h_k24, h_k25, h_k32, h_k44, h_k48, h_k50, h_k54, h_k57, h_k58, h_k59, h_k60, h_k63, h_k97, h_k100, h_k122, h_k177, h_k255, h_k400, h_k450, h_k625, h_k649, h_k708, h_k800, h_k900, h_k2500, h_k22500, h_k45000, h_kn1, h_kn2, h_kJ, h_kU, h_eI, h_eL, h_eR, h_eT, h_b1, h_eZ, h_not, h_b2, h_b0, h_b0L, h_gI, h_gL, h_gN, h_gR, h_aI, h_aL, h_aR, h_aLen, h_tern, h_and, h_or, h_vN, h_vI, h_vJ, h_vA, h_cFv, h_cFs, h_toI, h_toL, h_toV, h_nO, h_nA, g_skip, g_brk, g_cnt, g_retV, g_seq, g_if, g_setI, g_setR, g_setL, g_inc, g_putI, g_putZ, g_putL, g_putR, g_upI, g_AI, g_AL, g_AR, g_UA, g_exp, g_retI, g_retL, g_retZ, g_scope, g_unBrk, g_sup, h_fn, argE_n, argE_i, argE_r, argE_l, argE_a, sto_0, sto_s, sto_n0, sto_ns, isL_i, isL_r, isL_n, isL_a, isL_l, isL_0, rcv_r, rcv_a, List.getElem?_cons_zero, List.getElem?_cons_succ, List.getElem?_nil, List.set_cons_zero, List.set_cons_succ, List.take_succ_cons, List.take_zero, List.take_nil, List.length_cons, List.length_nil, List.nil_append, List.cons_append, Nat.reduceAdd, Nat.reduceSub, Nat.reduceLT, Nat.reduceEqDiff, Nat.reduceLeDiff, Nat.zero_add, Nat.lt_irrefl, Nat.succ_sub_one, and_true, true_and, and_false, false_and, not_false_eq_true, not_true_eq_false, Bool.false_eq_true, Bool.not_true, Bool.not_false, Bool.not_eq_true', Bool.true_eq_false, decide_true, decide_false, decide_eq_true_eq, decide_eq_false_iff_not, Option.some.injEq, and_self, Nat.add_one_sub_one, Nat.lt_add_one, Nat.zero_lt_succ, Value.int.injEq, Value.ref.injEq, Value.long.injEq, exists_eq_left', exists_eq_left, Sum.inl.injEq, Sum.inr.injEq, i2z_b2i, n32_add, n32_mul, n32_inc, n_iEq, n_iNe, n_iLt, n_iLe, n_iGt, n_iGe, n_zEq, n_zLt, n_zLe, n_zGt, n_zGe, n_inb, n32_clamp, show j < 8 by omega, h_of (q_hasBit (x &&& al) (show j < 32 by omega) _), ex]
        exact ⟨k - 1, by omega, j + 1, rfl, by omega⟩
  obtain ⟨w, m, h1, rfl, rfl⟩ := h_ex key
  exact h1
def tS (B : Nat) : Nat → Prop := fun a => a = B + 54 ∨ a = B + 55 ∨ a = B + 56
theorem WV.fr {M' : qM} {S : Nat → Prop} {s0 s1 lg : Nat} {ce : Nat → Nat → Nat → Nat → Prop} {la : Nat → Nat → Prop} (W : WV M B s0 s1 ce la lg) (f : Fr S M M') (d : ∀ a, S a → ¬ (B + 46 ≤ a ∧ a ≤ B + 50)) : WV M' B s0 s1 ce la lg := by
  have o : ∀ a, B + 46 ≤ a → a ≤ B + 50 → ∀ k, vi M' a k = vi M a k := fun a h1 h2 k => f.vi (fun z => d a z ⟨h1, h2⟩) k
  refine ⟨?_, ?_, W.b0, W.b1, fun n a b z1 z2 z3 i => ?_, fun n z1 i => ?_, ?_⟩
  · rw [o _ (by omega) (by omega)]; exact W.v0
  · rw [o _ (by omega) (by omega)]; exact W.v1
  · rw [o _ (by omega) (by omega)]; exact W.ce n a b z1 z2 z3 i
  · rw [o _ (by omega) (by omega)]; exact W.la n z1 i
  · rw [o _ (by omega) (by omega)]; exact W.lg
theorem q_tellSide (h : PlanAt M P p) (S : ScrT M B) (hd : P + 12 < B + 45 ∨ B + 64 < P) {s : Nat} (hs : s < 2) {s0 s1 lg : Nat} {ce : Nat → Nat → Nat → Nat → Prop} {la : Nat → Nat → Prop} (W : WV M B s0 s1 ce la lg) {V : List Nat → Prop} {rows : Nat} (hrows : rows ≤ 24) {pre : List Nat} (hp : pre.length ≤ 24) (al0 : Int32)
    (hst : ∀ w, w.length < rows → Ext V (pre ++ w) → (∃ r, LeastE V (pre ++ w) r ∧ r < pK p) ∧ useL p 0 w ≤ s0 ∧ useL p 1 w ≤ s1)
    (H : ∀ w, w.length < rows → Ext V (pre ++ w) → ∀ r, (alW p s (bt al0) w r = true ∧ ∃ x y, x + useL p 0 w ≤ s0 ∧ y + useL p 1 w ≤ s1 ∧ ce (rows - w.length) x y r) ↔ Ext V (pre ++ w ++ [r]))
    (G0 : Grd V pre) (E0 : Ext V pre) (v7 : vi M (B + 54) 7 = n32 pre.length) (sq : ∀ q, q < pre.length → vi M (B + 55) q = n32 (pre.getD q 0)) (tk : ∀ c, c < 2 → vi M (B + 56) (s * 2 + c) = n32 0) :
    ∃ M' w, f_X0_tellSide [.ref (B + 54), .ref P, .ref (B + 46), .int (n32 s), .int (n32 rows), .int al0] M = some (none, M') ∧ Fr (tS B) M M' ∧ w.length = rows ∧ Grd V (pre ++ w) ∧ Ext V (pre ++ w) ∧ (∀ q, q ≠ 7 → vi M' (B + 54) q = vi M (B + 54) q) ∧ vi M' (B + 54) 7 = n32 (pre.length + rows) ∧ (∀ q, q < pre.length + rows → vi M' (B + 55) q = n32 ((pre ++ w).getD q 0)) ∧ (∀ c, c < 2 → vi M' (B + 56) (s * 2 + c) = n32 (useL p c w)) ∧ ∀ q, ¬ (s * 2 ≤ q ∧ q < s * 2 + 2) → vi M' (B + 56) q = vi M (B + 56) q := by
  have hK := h.O.kinds
  have b0 := W.b0
  have b1 := W.b1
  have key : hF f_X0_tellSide [.ref (B + 54), .ref P, .ref (B + 46), .int (n32 s), .int (n32 rows), .int al0] M (fun v M' => ∃ w, v = none ∧ Fr (tS B) M M' ∧ w.length = rows ∧ Grd V (pre ++ w) ∧ Ext V (pre ++ w) ∧ (∀ q, q ≠ 7 → vi M' (B + 54) q = vi M (B + 54) q) ∧ vi M' (B + 54) 7 = n32 (pre.length + rows) ∧ (∀ q, q < pre.length + rows → vi M' (B + 55) q = n32 ((pre ++ w).getD q 0)) ∧ (∀ c, c < 2 → vi M' (B + 56) (s * 2 + c) = n32 (useL p c w)) ∧ ∀ q, ¬ (s * 2 ≤ q ∧ q < s * 2 + 2) → vi M' (B + 56) q = vi M (B + 56) q) () := by
    delta f_X0_tellSide b_X0_tellSide
    simp only [hR_d, hT_d, hI_t, hI_f, hVI_s, hVL_s, hVR_s, hVT_s, hVV_s, hO_s, hB_0, hB_1, hB_2, hB_r, hU_0, hU_1, hU_2, hU_r, hX_r, hL_0, hL_1, hL_2, hL_r, hC_s, h_k0, h_k1, h_k2, h_k3, h_k4, h_k5, h_k6, h_k7, h_k8, h_k9, h_k10, h_k11, h_k12, h_k14, h_k16, h_k18, h_k20, h_k23, h_k24, h_k25, h_k32, h_k44, h_k48, h_k50, h_k54, h_k57, h_k58, h_k59, h_k60, h_k63, h_k97, h_k100, h_k122, h_k177, h_k255, h_k400, h_k450, h_k625, h_k649, h_k708, h_k800, h_k900, h_k2500, h_k22500, h_k45000, h_kn1, h_kn2, h_kJ, h_kU, h_eI, h_eL, h_eR, h_eT, h_b1, h_eZ, h_not, h_b2, h_b0, h_b0L, h_gI, h_gL, h_gN, h_gR, h_aI, h_aL, h_aR, h_aLen, h_tern, h_and, h_or, h_vN, h_vI, h_vJ, h_vA, h_cFv, h_cFs, h_toI, h_toL, h_toV, h_nO, h_nA, g_skip, g_brk, g_cnt, g_retV, g_seq, g_if, g_setI, g_setR, g_setL, g_inc, g_putI, g_putZ, g_putL, g_putR, g_upI, g_AI, g_AL, g_AR, g_UA, g_exp, g_retI, g_retL, g_retZ, g_scope, g_unBrk, g_sup, h_fn, argE_n, argE_i, argE_r, argE_l, argE_a, sto_0, sto_s, sto_n0, sto_ns, isL_i, isL_r, isL_n, isL_a, isL_l, isL_0, rcv_r, rcv_a, List.getElem?_cons_zero, List.getElem?_cons_succ, List.getElem?_nil, List.set_cons_zero, List.set_cons_succ, List.take_succ_cons, List.take_zero, List.take_nil, List.length_cons, List.length_nil, List.nil_append, List.cons_append, Nat.reduceAdd, Nat.reduceSub, Nat.reduceLT, Nat.reduceEqDiff, Nat.reduceLeDiff, Nat.zero_add, Nat.lt_irrefl, Nat.succ_sub_one, and_true, true_and, and_false, false_and, not_false_eq_true, not_true_eq_false, Bool.false_eq_true, Bool.not_true, Bool.not_false, Bool.not_eq_true', Bool.true_eq_false, decide_true, decide_false, decide_eq_true_eq, decide_eq_false_iff_not, Option.some.injEq, and_self, Nat.add_one_sub_one, Nat.lt_add_one, Nat.zero_lt_succ, Value.int.injEq, Value.ref.injEq, Value.long.injEq, exists_eq_left', exists_eq_left, Sum.inl.injEq, Sum.inr.injEq, i2z_b2i, n32_add, n32_mul, n32_inc]
    refine h_dn (fun n e m => ∃ w al, w.length + n = rows ∧ e = [.ref (B + 54), .ref P, .ref (B + 46), .int (n32 s), .int (n32 rows), .int al0, .int al, .int (n32 n)] ∧ (∀ r, bt al r = alW p s (bt al0) w r) ∧ Fr (tS B) M m ∧ Grd V (pre ++ w) ∧ Ext V (pre ++ w) ∧ (∀ q, q ≠ 7 → vi m (B + 54) q = vi M (B + 54) q) ∧ vi m (B + 54) 7 = n32 (pre.length + w.length) ∧ (∀ q, q < pre.length + w.length → vi m (B + 55) q = n32 ((pre ++ w).getD q 0)) ∧ (∀ c, c < 2 → vi m (B + 56) (s * 2 + c) = n32 (useL p c w)) ∧ ∀ q, ¬ (s * 2 ≤ q ∧ q < s * 2 + 2) → vi m (B + 56) q = vi M (B + 56) q) rows ⟨[], al0, by simp, rfl, fun r => rfl, Fr.refl _ _, by simpa using G0, by simpa using E0, fun _ _ => rfl, v7, by simpa using sq, tk, fun _ _ => rfl⟩ ?_
    rintro n e m ⟨w, al, hwn, rfl, hal, F, G, E, U, v7, sq, tk, ut⟩
    by_cases n0 : 0 < n
    · have h' := h.fr F (fun a z1 z2 z3 => by unfold tS at z3; omega)
      have S' := S.fr F
      have W' := W.fr F (fun a z => by unfold tS at z; omega)
      obtain ⟨⟨r, hL, hr⟩, us0, us1⟩ := hst w (by omega) E
      have Hw := H w (by omega) E
      have rn : rows - w.length = n := by omega
      rw [rn] at Hw
      have okr := (Hw r).mpr hL.1
      have fe := q_firstEnd S' W' (n := n) (u0 := useL p 0 w) (u1 := useL p 1 w) (by omega) us0 us1 al (r := r) (by omega) (by rw [hal]; exact okr) (fun q hq z => by rw [hal] at z; have := hL.2 q ((Hw q).mp z); omega)
      have t0 : vi m (B + 56) (s * 2) = n32 (useL p 0 w) := tk 0 (by decide)
      have t1 := tk 1 (by decide)
      have hcol := h.O.col r hr
      have hcs := h.O.cols
      have htk := h.O.tk r hr
      obtain ⟨m1, hm1⟩ : ∃ m1, m1 = pI m (B + 55) (pre.length + w.length) (n32 r) := ⟨_, rfl⟩
      obtain ⟨m2, hm2⟩ : ∃ m2, m2 = pI m1 (B + 54) 7 (n32 (pre.length + w.length + 1)) := ⟨_, rfl⟩
      obtain ⟨m3, hm3⟩ : ∃ m3, m3 = pI m2 (B + 56) (s * 2 + pCol p r) (n32 (useL p (pCol p r) w + pTk p r)) := ⟨_, rfl⟩
      have F1 : Fr (tS B) M m1 := by rw [hm1]; exact F.pI _ _ (Or.inr (Or.inl rfl))
      have F2 : Fr (tS B) M m2 := by rw [hm2]; exact F1.pI _ _ (Or.inl rfl)
      have F3 : Fr (tS B) M m3 := by rw [hm3]; exact F2.pI _ _ (Or.inr (Or.inr rfl))
      have S1 := S.fr F1
      have S2 := S.fr F2
      have S3 := S.fr F3
      have h2 := h.fr F2 (fun a z1 z2 z3 => by unfold tS at z3; omega)
      have h3 := h.fr F3 (fun a z1 z2 z3 => by unfold tS at z3; omega)
      have v71 : vi m1 (B + 54) 7 = n32 (pre.length + w.length) := by rw [hm1, vi_ne (by omega)]; exact v7
      have tk2 : vi m2 (B + 56) (s * 2 + pCol p r) = n32 (useL p (pCol p r) w) := by rw [hm2, vi_ne (by omega), hm1, vi_ne (by omega)]; exact tk _ (by omega)
      have lw : (pre ++ w).length = pre.length + w.length := by simp
      have G3 : Grd V (pre ++ (w ++ [r])) := by rw [← List.append_assoc]; exact G.snoc hL
      have E3 : Ext V (pre ++ (w ++ [r])) := by rw [← List.append_assoc]; exact hL.1
      have U3 : ∀ q, q ≠ 7 → vi m3 (B + 54) q = vi M (B + 54) q := fun q hq => by rw [hm3, vi_ne (by omega), hm2, vi_nk hq, hm1, vi_ne (by omega)]; exact U q hq
      have v73 : vi m3 (B + 54) 7 = n32 (pre.length + (w ++ [r]).length) := by rw [hm3, vi_ne (by omega), hm2, vi_self]; simp; rfl
      have sq3 : ∀ q, q < pre.length + (w ++ [r]).length → vi m3 (B + 55) q = n32 ((pre ++ (w ++ [r])).getD q 0) := by
        intro q hq
        rw [hm3, vi_ne (by omega), hm2, vi_ne (by omega), hm1, vi_pI, ← List.append_assoc]
        simp at hq
        by_cases e : q = pre.length + w.length
        · subst e
          rw [if_pos ⟨rfl, rfl⟩, ← lw, gd_end]
        · rw [if_neg (fun z => e z.2), gd_app (by omega)]
          exact sq q (by omega)
      have tk3 : ∀ c, c < 2 → vi m3 (B + 56) (s * 2 + c) = n32 (useL p c (w ++ [r])) := by
        intro c hc
        rw [hm3, vi_pI, useL_snoc]
        by_cases e : c = pCol p r
        · subst e
          rw [if_pos ⟨rfl, rfl⟩, show tkc p r (pCol p r) = pTk p r by simp [tkc]]
        · rw [if_neg (fun z => e (by omega)), hm2, vi_ne (by omega), hm1, vi_ne (by omega), tk c hc, show tkc p r c = 0 by unfold tkc; rw [if_neg (fun z => e z.symm)], Nat.add_zero]
      have ut3 : ∀ q, ¬ (s * 2 ≤ q ∧ q < s * 2 + 2) → vi m3 (B + 56) q = vi M (B + 56) q := fun q hq => by rw [hm3, vi_nk (by omega), hm2, vi_ne (by omega), hm1, vi_ne (by omega)]; exact ut q hq
      have cx := h3.V.nx r hr
      have sx := h3.V.sm
      have fin : ∀ al', (∀ q, bt al' q = alB p s r q) → ∃ k', k' < n ∧ ∃ w' al'', w'.length + k' = rows ∧ [Value.ref (B + 54), Value.ref P, Value.ref (B + 46), Value.int (n32 s), Value.int (n32 rows), Value.int al0, Value.int al', Value.int (n32 (n - 1))] = [.ref (B + 54), .ref P, .ref (B + 46), .int (n32 s), .int (n32 rows), .int al0, .int al'', .int (n32 k')] ∧ (∀ r, bt al'' r = alW p s (bt al0) w' r) ∧ Fr (tS B) M m3 ∧ Grd V (pre ++ w') ∧ Ext V (pre ++ w') ∧ (∀ q, q ≠ 7 → vi m3 (B + 54) q = vi M (B + 54) q) ∧ vi m3 (B + 54) 7 = n32 (pre.length + w'.length) ∧ (∀ q, q < pre.length + w'.length → vi m3 (B + 55) q = n32 ((pre ++ w').getD q 0)) ∧ (∀ c, c < 2 → vi m3 (B + 56) (s * 2 + c) = n32 (useL p c w')) ∧ ∀ q, ¬ (s * 2 ≤ q ∧ q < s * 2 + 2) → vi m3 (B + 56) q = vi M (B + 56) q := by
        intro al' ha
        exact ⟨n - 1, by omega, w ++ [r], al', by simp; omega, rfl, fun q => by rw [alW_snoc]; exact ha q, F3, G3, E3, U3, v73, sq3, tk3, ut3⟩
      have hz : zEq (n32 s) = decide (s = 0) := n_zEq (by omega)
      by_cases s0' : s = 0
      · have fa := fin (vi m3 (P + 5) r) (fun q => by rw [cx q]; unfold alB; rw [if_pos s0'])
        simp (disch := omega) only [hR_d, hT_d, hI_t, hI_f, hVI_s, hVL_s, hVR_s, hVT_s, hVV_s, hO_s, hB_0, hB_1, hB_2, hB_r, hU_0, hU_1, hU_2, hU_r, hX_r, hL_0, hL_1, hL_2, hL_r, hC_s, h_k0, h_k1, h_k2, h_k3, h_k4, h_k5, h_k6, h_k7, h_k8, h_k9, h_k10, h_k11, h_k12, h_k14, h_k16, h_k18, h_k20, h_k23, h_k24, h_k25, h_k32, h_k44, h_k48, h_k50, h_k54, h_k57, h_k58, h_k59, h_k60, h_k63, h_k97, h_k100, h_k122, h_k177, h_k255, h_k400, h_k450, h_k625, h_k649, h_k708, h_k800, h_k900, h_k2500, h_k22500, h_k45000, h_kn1, h_kn2, h_kJ, h_kU, h_eI, h_eL, h_eR, h_eT, h_b1, h_eZ, h_not, h_b2, h_b0, h_b0L, h_gI, h_gL, h_gN, h_gR, h_aI, h_aL, h_aR, h_aLen, h_tern, h_and, h_or, h_vN, h_vI, h_vJ, h_vA, h_cFv, h_cFs, h_toI, h_toL, h_toV, h_nO, h_nA, g_skip, g_brk, g_cnt, g_retV, g_seq, g_if, g_setI, g_setR, g_setL, g_inc, g_putI, g_putZ, g_putL, g_putR, g_upI, g_AI, g_AL, g_AR, g_UA, g_exp, g_retI, g_retL, g_retZ, g_scope, g_unBrk, g_sup, h_fn, argE_n, argE_i, argE_r, argE_l, argE_a, sto_0, sto_s, sto_n0, sto_ns, isL_i, isL_r, isL_n, isL_a, isL_l, isL_0, rcv_r, rcv_a, List.getElem?_cons_zero, List.getElem?_cons_succ, List.getElem?_nil, List.set_cons_zero, List.set_cons_succ, List.take_succ_cons, List.take_zero, List.take_nil, List.length_cons, List.length_nil, List.nil_append, List.cons_append, Nat.reduceAdd, Nat.reduceSub, Nat.reduceLT, Nat.reduceEqDiff, Nat.reduceLeDiff, Nat.zero_add, Nat.lt_irrefl, Nat.succ_sub_one, and_true, true_and, and_false, false_and, not_false_eq_true, not_true_eq_false, Bool.false_eq_true, Bool.not_true, Bool.not_false, Bool.not_eq_true', Bool.true_eq_false, decide_true, decide_false, decide_eq_true_eq, decide_eq_false_iff_not, Option.some.injEq, and_self, Nat.add_one_sub_one, Nat.lt_add_one, Nat.zero_lt_succ, Value.int.injEq, Value.ref.injEq, Value.long.injEq, exists_eq_left', exists_eq_left, Sum.inl.injEq, Sum.inr.injEq, i2z_b2i, n32_add, n32_mul, n32_inc, n_iEq, n_iNe, n_iLt, n_iLe, n_iGt, n_iGe, n_zEq, n_zLt, n_zLe, n_zGt, n_zGe, n_inb, n32_clamp, tg_pI, tg_pL, tg_pR, vr_pI, vr_pL, vl_pI, vl_pR, vi_pL, vi_pR, mN_pI, mN_pL, mN_pR, mU_pI, mU_pL, mU_pR, n0, S'.t46, S'.t54, S'.b6, S'.t56, t0, t1, h_of fe, v7, show ¬ 48 ≤ pre.length + w.length by omega, S'.b5, S'.t55, nar, Nat.reduceEqDiff, if_false, ← hm1, S1.t54, v71, ← hm2, S2.t54, S2.b6, S2.t56, h2.T.t, h2.T.r6, h2.T.t2, h2.T.r7, h2.T.t3, h2.V.col r hr, h2.V.tk r hr, tk2, ← hm3, eq_true s0', h3.T.t, h3.T.r10, h3.T.t5, n32_dec]
        repeat (first | exact fa | refine ⟨by omega, ?_⟩)
      · have fa := fin (vi m3 (P + 5) r &&& (vi m3 P 9 ^^^ -1)) (fun q => by
          unfold alB
          rw [if_neg s0', bt_and, cx q]
          by_cases q32 : q < 32
          · rw [bt_cpl _ q32, sx]
          · have : pNx p r q = false := by
              cases e : pNx p r q
              · rfl
              · have := (h.O.nx r q e).2; omega
            rw [this]; rfl)
        simp (disch := omega) only [hR_d, hT_d, hI_t, hI_f, hVI_s, hVL_s, hVR_s, hVT_s, hVV_s, hO_s, hB_0, hB_1, hB_2, hB_r, hU_0, hU_1, hU_2, hU_r, hX_r, hL_0, hL_1, hL_2, hL_r, hC_s, h_k0, h_k1, h_k2, h_k3, h_k4, h_k5, h_k6, h_k7, h_k8, h_k9, h_k10, h_k11, h_k12, h_k14, h_k16, h_k18, h_k20, h_k23, h_k24, h_k25, h_k32, h_k44, h_k48, h_k50, h_k54, h_k57, h_k58, h_k59, h_k60, h_k63, h_k97, h_k100, h_k122, h_k177, h_k255, h_k400, h_k450, h_k625, h_k649, h_k708, h_k800, h_k900, h_k2500, h_k22500, h_k45000, h_kn1, h_kn2, h_kJ, h_kU, h_eI, h_eL, h_eR, h_eT, h_b1, h_eZ, h_not, h_b2, h_b0, h_b0L, h_gI, h_gL, h_gN, h_gR, h_aI, h_aL, h_aR, h_aLen, h_tern, h_and, h_or, h_vN, h_vI, h_vJ, h_vA, h_cFv, h_cFs, h_toI, h_toL, h_toV, h_nO, h_nA, g_skip, g_brk, g_cnt, g_retV, g_seq, g_if, g_setI, g_setR, g_setL, g_inc, g_putI, g_putZ, g_putL, g_putR, g_upI, g_AI, g_AL, g_AR, g_UA, g_exp, g_retI, g_retL, g_retZ, g_scope, g_unBrk, g_sup, h_fn, argE_n, argE_i, argE_r, argE_l, argE_a, sto_0, sto_s, sto_n0, sto_ns, isL_i, isL_r, isL_n, isL_a, isL_l, isL_0, rcv_r, rcv_a, List.getElem?_cons_zero, List.getElem?_cons_succ, List.getElem?_nil, List.set_cons_zero, List.set_cons_succ, List.take_succ_cons, List.take_zero, List.take_nil, List.length_cons, List.length_nil, List.nil_append, List.cons_append, Nat.reduceAdd, Nat.reduceSub, Nat.reduceLT, Nat.reduceEqDiff, Nat.reduceLeDiff, Nat.zero_add, Nat.lt_irrefl, Nat.succ_sub_one, and_true, true_and, and_false, false_and, not_false_eq_true, not_true_eq_false, Bool.false_eq_true, Bool.not_true, Bool.not_false, Bool.not_eq_true', Bool.true_eq_false, decide_true, decide_false, decide_eq_true_eq, decide_eq_false_iff_not, Option.some.injEq, and_self, Nat.add_one_sub_one, Nat.lt_add_one, Nat.zero_lt_succ, Value.int.injEq, Value.ref.injEq, Value.long.injEq, exists_eq_left', exists_eq_left, Sum.inl.injEq, Sum.inr.injEq, i2z_b2i, n32_add, n32_mul, n32_inc, n_iEq, n_iNe, n_iLt, n_iLe, n_iGt, n_iGe, n_zEq, n_zLt, n_zLe, n_zGt, n_zGe, n_inb, n32_clamp, tg_pI, tg_pL, tg_pR, vr_pI, vr_pL, vl_pI, vl_pR, vi_pL, vi_pR, mN_pI, mN_pL, mN_pR, mU_pI, mU_pL, mU_pR, n0, S'.t46, S'.t54, S'.b6, S'.t56, t0, t1, h_of fe, v7, show ¬ 48 ≤ pre.length + w.length by omega, S'.b5, S'.t55, nar, Nat.reduceEqDiff, if_false, ← hm1, S1.t54, v71, ← hm2, S2.t54, S2.b6, S2.t56, h2.T.t, h2.T.r6, h2.T.t2, h2.T.r7, h2.T.t3, h2.V.col r hr, h2.V.tk r hr, tk2, ← hm3, s0', h3.T.t, h3.T.r10, h3.T.t5, n32_dec]
        repeat (first | exact fa | refine ⟨by omega, ?_⟩)
    · have : n = 0 := by omega
      subst this
      simp (disch := omega) only [hR_d, hT_d, hI_t, hI_f, hVI_s, hVL_s, hVR_s, hVT_s, hVV_s, hO_s, hB_0, hB_1, hB_2, hB_r, hU_0, hU_1, hU_2, hU_r, hX_r, hL_0, hL_1, hL_2, hL_r, hC_s, h_k0, h_k1, h_k2, h_k3, h_k4, h_k5, h_k6, h_k7, h_k8, h_k9, h_k10, h_k11, h_k12, h_k14, h_k16, h_k18, h_k20, h_k23, h_k24, h_k25, h_k32, h_k44, h_k48, h_k50, h_k54, h_k57, h_k58, h_k59, h_k60, h_k63, h_k97, h_k100, h_k122, h_k177, h_k255, h_k400, h_k450, h_k625, h_k649, h_k708, h_k800, h_k900, h_k2500, h_k22500, h_k45000, h_kn1, h_kn2, h_kJ, h_kU, h_eI, h_eL, h_eR, h_eT, h_b1, h_eZ, h_not, h_b2, h_b0, h_b0L, h_gI, h_gL, h_gN, h_gR, h_aI, h_aL, h_aR, h_aLen, h_tern, h_and, h_or, h_vN, h_vI, h_vJ, h_vA, h_cFv, h_cFs, h_toI, h_toL, h_toV, h_nO, h_nA, g_skip, g_brk, g_cnt, g_retV, g_seq, g_if, g_setI, g_setR, g_setL, g_inc, g_putI, g_putZ, g_putL, g_putR, g_upI, g_AI, g_AL, g_AR, g_UA, g_exp, g_retI, g_retL, g_retZ, g_scope, g_unBrk, g_sup, h_fn, argE_n, argE_i, argE_r, argE_l, argE_a, sto_0, sto_s, sto_n0, sto_ns, isL_i, isL_r, isL_n, isL_a, isL_l, isL_0, rcv_r, rcv_a, List.getElem?_cons_zero, List.getElem?_cons_succ, List.getElem?_nil, List.set_cons_zero, List.set_cons_succ, List.take_succ_cons, List.take_zero, List.take_nil, List.length_cons, List.length_nil, List.nil_append, List.cons_append, Nat.reduceAdd, Nat.reduceSub, Nat.reduceLT, Nat.reduceEqDiff, Nat.reduceLeDiff, Nat.zero_add, Nat.lt_irrefl, Nat.succ_sub_one, and_true, true_and, and_false, false_and, not_false_eq_true, not_true_eq_false, Bool.false_eq_true, Bool.not_true, Bool.not_false, Bool.not_eq_true', Bool.true_eq_false, decide_true, decide_false, decide_eq_true_eq, decide_eq_false_iff_not, Option.some.injEq, and_self, Nat.add_one_sub_one, Nat.lt_add_one, Nat.zero_lt_succ, Value.int.injEq, Value.ref.injEq, Value.long.injEq, exists_eq_left', exists_eq_left, Sum.inl.injEq, Sum.inr.injEq, i2z_b2i, n32_add, n32_mul, n32_inc, n_iEq, n_iNe, n_iLt, n_iLe, n_iGt, n_iGe, n_zEq, n_zLt, n_zLe, n_zGt, n_zGe, n_inb, n32_clamp]
      have hwr : w.length = rows := by omega
      rw [hwr] at v7 sq
      exact ⟨w, F, hwr, G, E, U, v7, sq, tk, ut⟩
  obtain ⟨v, m, h1, w, rfl, h2⟩ := h_ex key
  exact ⟨m, w, h1, h2⟩
end
