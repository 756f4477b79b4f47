/-! THE CLASS FINDS THE BEST MEETING -/
noncomputable def tlL : Sv := (sIf (b1 zGt (gI 1 3 (eR 0))) (sSeq (sExp (toV (cFv 8 f_X7_headBack (vA (vA vN (eR 6)) (eR 1))))) (sSeq (sExp (toV (cFv 8 f_X7_spread (vI (vI (vI (vI (vA (vA vN (eR 6)) (eR 1)) (toI (cFv 1 f_X0_meetingLefts (vA (vA (vA (vA vN (eR 0)) (eR 1)) (eR 2)) (eR 3))))) (toI (cFv 4 f_X3_storeOf (vI (vI (vA vN (eR 2)) (eK (0 : Int32))) (eK (0 : Int32)))))) (toI (cFv 4 f_X3_storeOf (vI (vI (vA vN (eR 2)) (eK (0 : Int32))) (eK (1 : Int32)))))) (gI 1 3 (eR 0)))))) (sExp (toV (cFv 1 f_X0_tellSide (vI (vI (vI (vA (vA (vA vN (eR 0)) (eR 1)) (eR 6)) (eK (0 : Int32))) (gI 1 3 (eR 0))) (toI (cFv 5 f_X4_behind (vI (vI (vA vN (eR 1)) (eK (0 : Int32))) (eI 4)))))))))) sSkip)
noncomputable def tlR : Sv := (sIf (cAnd (b1 zGt (gI 1 4 (eR 0))) (b1 zGe (eI 7))) (sSeq (sExp (toV (cFv 8 f_X7_headInward (vI (vA (vA vN (eR 6)) (eR 1)) (eK (1 : Int32)))))) (sSeq (sExp (toV (cFv 8 f_X7_spread (vI (vI (vI (vI (vA (vA vN (eR 6)) (eR 1)) (toI (cFv 5 f_X4_behind (vI (vI (vA vN (eR 1)) (eK (1 : Int32))) (eI 5))))) (toI (cFv 4 f_X3_storeOf (vI (vI (vA vN (eR 2)) (eK (1 : Int32))) (eK (0 : Int32)))))) (toI (cFv 4 f_X3_storeOf (vI (vI (vA vN (eR 2)) (eK (1 : Int32))) (eK (1 : Int32)))))) (gI 1 4 (eR 0)))))) (sExp (toV (cFv 1 f_X0_tellSide (vI (vI (vI (vA (vA (vA vN (eR 0)) (eR 1)) (eR 6)) (eK (1 : Int32))) (gI 1 4 (eR 0))) (aI 20 (gR 5 10 (eR 1)) (eI 7)))))))) sSkip)
theorem tl_eq : b_X0_tellRows = (sSeq (sScope 4 (sSeq (sExp (toV (cFs f_J7_fill_53178 (vI (vA vN (gR 1 6 (eR 0))) (eK (0 : Int32)))))) (sSeq (sPutI 1 7 (eR 0) (eK (0 : Int32))) (sSeq (sSetI 4 (toI (cFv 4 f_X3_lastAfter (vI (vI (vA vN (eR 2)) (eK (0 : Int32))) (gI 1 1 (eR 0)))))) (sSeq (sSetI 5 (toI (cFv 4 f_X3_lastAfter (vI (vI (vA vN (eR 2)) (eK (1 : Int32))) (gI 1 2 (eR 0)))))) (sSeq (sSetR 6 (gR 2 0 (eR 3))) (sSeq tlL (sSeq (sSetI 7 (tern (cAnd (b1 zGt (gI 1 3 (eR 0))) (b1 zGt (gI 1 7 (eR 0)))) (aI 20 (gR 1 5 (eR 0)) (b2 (fun x y => x - y) (gI 1 7 (eR 0)) (eK (1 : Int32)))) (eI 4))) tlR)))))))) sRetV) := rfl
noncomputable def fdT : Sv := (sIf (b1 i2z (gI 1 0 (eR 0))) (sExp (toV (cFv 1 f_X0_tellRows (vA (vA (vA (vA vN (eR 0)) (eR 1)) (eR 2)) (eR 3))))) sSkip)
noncomputable def fdI : Sv := (sScope 6 (sSeq (sSetI 6 (b2 (fun x y => x - y) (eI 4) (eI 5))) (sScope 7 (sSeq (sSetI 7 (eK (0 : Int32))) (sLoop (cAnd (b2 iLe (eI 7) (b2 (fun x y => x - y) (eK (48 : Int32)) (eI 6))) (cNot (b1 i2z (gI 1 0 (eR 0))))) (sPutZ 1 0 (eR 0) (eZ (cAnd (b1 i2z (toI (cFv 5 f_X4_mayFit (vI (vA vN (eR 1)) (b2 (fun x y => x + y) (eI 6) (eI 7)))))) (b1 i2z (toI (cFv 1 f_X0_findSplit (vI (vI (vA (vA (vA (vA vN (eR 0)) (eR 1)) (eR 2)) (eR 3)) (eI 5)) (eI 7)))))))) (sInc 7 (1)))))))
noncomputable def fdL : Sv := (sScope 5 (sSeq (sSetI 5 (eK (0 : Int32))) (sLoop (cAnd (b2 iLe (eI 5) (eI 4)) (cNot (b1 i2z (gI 1 0 (eR 0))))) fdI (sInc 5 (1)))))
theorem fd_eq : b_X0_find = (sSeq (sScope 4 (sSeq (sIf (b1 i2z (gI 1 8 (eR 0))) sRetV sSkip) (sSeq (sPutZ 1 8 (eR 0) (eK (1 : Int32))) (sSeq (sPutZ 1 0 (eR 0) (eK (0 : Int32))) (sSeq (sExp (toV (cFv 2 f_X1_forget (vA vN (eR 3))))) (sSeq (sSetI 4 (b2 (fun x y => x + y) (aI 20 (gR 4 1 (eR 2)) (eK (0 : Int32))) (aI 20 (gR 4 1 (eR 2)) (eK (1 : Int32))))) (sSeq fdL fdT))))))) sRetV) := rfl
def bS (B : Nat) : Nat → Prop := fun a => B + 46 ≤ a ∧ a ≤ B + 56
section
variable {M : qM} {B P L : Nat} {p : Pl} {lo : Lo} {K : Nat}
theorem q_meetingLefts (h : PlanAt M P p) (S : ScrT M B) (g : LoomAt M L (pK p) lo) {i j a b : Nat} (hi : i ≤ lC lo 0) (hj : j ≤ lC lo 1) (hm : mtB p lo i j a b = true) (E0 : ES M B p lo 0 i) (E1 : ES M B p lo 1 j) (F : BF4 M B i j a b) : ∃ x, f_X0_meetingLefts [.ref (B + 54), .ref P, .ref L, .ref (B + 45)] M = some (some (.int x), M) ∧ ∀ e, bt x e = true ↔ e < pK p ∧ EL p lo 0 i a e = true ∧ ∃ q, EL p lo 1 j b q = true ∧ pNx p e q = true := by
  have hK := h.O.kinds
  obtain ⟨ha, hb⟩ := mtB_le hm
  obtain ⟨y1, y2, y3, y4⟩ := mtB_true.mp hm
  obtain ⟨v1, v2, v3, v4⟩ := F
  obtain ⟨m0, l0, m01, m02, m03, -⟩ := E0.tab h.O g.O (by decide)
  obtain ⟨m1, l1, m11, m12, m13, -⟩ := E1.tab h.O g.O (by decide)
  have la' := fit_le (s := 0) (n := a) (by decide) y3 m02 (by show a ≤ lC lo 0 - i + a; omega) (by omega)
  have lb' := fit_le (s := 1) (n := b) (by decide) y3 m12 (by show b ≤ lC lo 1 - j + b; omega) (by omega)
  obtain ⟨lf, hlf⟩ : ∃ lf, lf = vi M (B + 51) ((0 * 9 + stO (lastO lo 0 i)) * 25 + a) := ⟨_, rfl⟩
  obtain ⟨rt, hrt⟩ : ∃ rt, rt = vi M (B + 51) ((1 * 9 + stO (lastO lo 1 j)) * 25 + b) := ⟨_, rfl⟩
  have ql := q_leftLasts h S g hi ha v1 v3
  have qr := q_rightLasts h S g hj hb v2 v4
  rw [← hlf] at ql
  rw [← hrt] at qr
  have bl : bt lf = EL p lo 0 i a := by rw [hlf]; exact m03 a la'
  have br : bt rt = EL p lo 1 j b := by rw [hrt]; exact m13 b lb'
  have key : hF f_X0_meetingLefts [.ref (B + 54), .ref P, .ref L, .ref (B + 45)] M (fun w M' => ∃ x, w = some (Value.int x) ∧ M' = M ∧ ∀ e, bt x e = true ↔ e < pK p ∧ EL p lo 0 i a e = true ∧ ∃ q, EL p lo 1 j b q = true ∧ pNx p e q = true) () := by
    delta f_X0_meetingLefts b_X0_meetingLefts
    simp only [hR_d, hT_d, hI_t, hI_f, hVI_s, hVL_s, hVR_s, hVT_s, hVV_s, hO_s, hB_0, hB_1, hB_2, hB_r, hU_0, hU_1, hU_2, hU_r, hX_r, hL_0, hL_1, hL_2, hL_r, hC_s, h_k0, h_k1, h_k2, h_k3, h_k4, h_k5, h_k6, h_k7, h_k8, h_k9, h_k10, h_k11, h_k12, h_k14, h_k16, h_k18, h_k20, h_k23, h_k24, h_k25, h_k32, h_k44, h_k48, h_k50, h_k54, h_k57, h_k58, h_k59, h_k60, h_k63, h_k97, h_k100, h_k122, h_k177, h_k255, h_k400, h_k450, h_k625, h_k649, h_k708, h_k800, h_k900, h_k2500, h_k22500, h_k45000, h_kn1, h_kn2, h_kJ, h_kU, h_eI, h_eL, h_eR, h_eT, h_b1, h_eZ, h_not, h_b2, h_b0, h_b0L, h_gI, h_gL, h_gN, h_gR, h_aI, h_aL, h_aR, h_aLen, h_tern, h_and, h_or, h_vN, h_vI, h_vJ, h_vA, h_cFv, h_cFs, h_toI, h_toL, h_toV, h_nO, h_nA, g_skip, g_brk, g_cnt, g_retV, g_seq, g_if, g_setI, g_setR, g_setL, g_inc, g_putI, g_putZ, g_putL, g_putR, g_upI, g_AI, g_AL, g_AR, g_UA, g_exp, g_retI, g_retL, g_retZ, g_scope, g_unBrk, g_sup, h_fn, argE_n, argE_i, argE_r, argE_l, argE_a, sto_0, sto_s, sto_n0, sto_ns, isL_i, isL_r, isL_n, isL_a, isL_l, isL_0, rcv_r, rcv_a, List.getElem?_cons_zero, List.getElem?_cons_succ, List.getElem?_nil, List.set_cons_zero, List.set_cons_succ, List.take_succ_cons, List.take_zero, List.take_nil, List.length_cons, List.length_nil, List.nil_append, List.cons_append, Nat.reduceAdd, Nat.reduceSub, Nat.reduceLT, Nat.reduceEqDiff, Nat.reduceLeDiff, Nat.zero_add, Nat.lt_irrefl, Nat.succ_sub_one, and_true, true_and, and_false, false_and, not_false_eq_true, not_true_eq_false, Bool.false_eq_true, Bool.not_true, Bool.not_false, Bool.not_eq_true', Bool.true_eq_false, decide_true, decide_false, decide_eq_true_eq, decide_eq_false_iff_not, Option.some.injEq, and_self, Nat.add_one_sub_one, Nat.lt_add_one, Nat.zero_lt_succ, Value.int.injEq, Value.ref.injEq, Value.long.injEq, exists_eq_left', exists_eq_left, Sum.inl.injEq, Sum.inr.injEq, i2z_b2i, n32_add, n32_mul, n32_inc, S.t54, h_of ql, h_of qr]
    refine h_up (fun k e m => ∃ x, e = [.ref (B + 54), .ref P, .ref L, .ref (B + 45), .int lf, .int rt, .int x, .int (n32 k)] ∧ m = M ∧ ∀ e, bt x e = true ↔ e < k ∧ EL p lo 0 i a e = true ∧ ∃ q, EL p lo 1 j b q = true ∧ pNx p e q = true) (pK p) ⟨n32 0, rfl, rfl, fun e => by rw [k_0, bt_zero]; exact ⟨fun z => (by cases z), fun z => by omega⟩⟩ ?_ ?_
    · rintro k e m hk ⟨x, rfl, rfl, J⟩
      have jv : jn p (bt (lf &&& shlI (n32 1) (n32 k))) (bt rt) = true ↔ EL p lo 0 i a k = true ∧ ∃ q, EL p lo 1 j b q = true ∧ pNx p k q = true := by
        rw [jn_true hK]
        constructor
        · rintro ⟨r, q, z1, z2, z3, z4, z5⟩
          rw [bt_and, Bool.and_eq_true, k_1, bt_shl (by omega), decide_eq_true_eq, bl] at z1
          obtain ⟨z1, rfl⟩ := z1
          rw [br] at z2
          exact ⟨z1, q, z2, z3⟩
        · rintro ⟨z1, q, z2, z3⟩
          refine ⟨k, q, ?_, by rw [br]; exact z2, z3, hk, (h.O.nx k q z3).2⟩
          rw [bt_and, Bool.and_eq_true, k_1, bt_shl (by omega), decide_eq_true_eq, bl]
          exact ⟨z1, rfl⟩
      simp (disch := omega) only [hR_d, hT_d, hI_t, hI_f, hVI_s, hVL_s, hVR_s, hVT_s, hVV_s, hO_s, hB_0, hB_1, hB_2, hB_r, hU_0, hU_1, hU_2, hU_r, hX_r, hL_0, hL_1, hL_2, hL_r, hC_s, h_k0, h_k1, h_k2, h_k3, h_k4, h_k5, h_k6, h_k7, h_k8, h_k9, h_k10, h_k11, h_k12, h_k14, h_k16, h_k18, h_k20, h_k23, h_k24, h_k25, h_k32, h_k44, h_k48, h_k50, h_k54, h_k57, h_k58, h_k59, h_k60, h_k63, h_k97, h_k100, h_k122, h_k177, h_k255, h_k400, h_k450, h_k625, h_k649, h_k708, h_k800, h_k900, h_k2500, h_k22500, h_k45000, h_kn1, h_kn2, h_kJ, h_kU, h_eI, h_eL, h_eR, h_eT, h_b1, h_eZ, h_not, h_b2, h_b0, h_b0L, h_gI, h_gL, h_gN, h_gR, h_aI, h_aL, h_aR, h_aLen, h_tern, h_and, h_or, h_vN, h_vI, h_vJ, h_vA, h_cFv, h_cFs, h_toI, h_toL, h_toV, h_nO, h_nA, g_skip, g_brk, g_cnt, g_retV, g_seq, g_if, g_setI, g_setR, g_setL, g_inc, g_putI, g_putZ, g_putL, g_putR, g_upI, g_AI, g_AL, g_AR, g_UA, g_exp, g_retI, g_retL, g_retZ, g_scope, g_unBrk, g_sup, h_fn, argE_n, argE_i, argE_r, argE_l, argE_a, sto_0, sto_s, sto_n0, sto_ns, isL_i, isL_r, isL_n, isL_a, isL_l, isL_0, rcv_r, rcv_a, List.getElem?_cons_zero, List.getElem?_cons_succ, List.getElem?_nil, List.set_cons_zero, List.set_cons_succ, List.take_succ_cons, List.take_zero, List.take_nil, List.length_cons, List.length_nil, List.nil_append, List.cons_append, Nat.reduceAdd, Nat.reduceSub, Nat.reduceLT, Nat.reduceEqDiff, Nat.reduceLeDiff, Nat.zero_add, Nat.lt_irrefl, Nat.succ_sub_one, and_true, true_and, and_false, false_and, not_false_eq_true, not_true_eq_false, Bool.false_eq_true, Bool.not_true, Bool.not_false, Bool.not_eq_true', Bool.true_eq_false, decide_true, decide_false, decide_eq_true_eq, decide_eq_false_iff_not, Option.some.injEq, and_self, Nat.add_one_sub_one, Nat.lt_add_one, Nat.zero_lt_succ, Value.int.injEq, Value.ref.injEq, Value.long.injEq, exists_eq_left', exists_eq_left, Sum.inl.injEq, Sum.inr.injEq, i2z_b2i, n32_add, n32_mul, n32_inc, n_iEq, n_iNe, n_iLt, n_iLe, n_iGt, n_iGe, n_zEq, n_zLt, n_zLe, n_zGt, n_zGe, n_inb, n32_clamp, h.T.t, h.V.kinds, hk, h_of (q_joins h _ _)]
      cases ej : jn p (bt (lf &&& shlI (n32 1) (n32 k))) (bt rt)
      · simp (disch := omega) only [hR_d, hT_d, hI_t, hI_f, hVI_s, hVL_s, hVR_s, hVT_s, hVV_s, hO_s, hB_0, hB_1, hB_2, hB_r, hU_0, hU_1, hU_2, hU_r, hX_r, hL_0, hL_1, hL_2, hL_r, hC_s, h_k0, h_k1, h_k2, h_k3, h_k4, h_k5, h_k6, h_k7, h_k8, h_k9, h_k10, h_k11, h_k12, h_k14, h_k16, h_k18, h_k20, h_k23, h_k24, h_k25, h_k32, h_k44, h_k48, h_k50, h_k54, h_k57, h_k58, h_k59, h_k60, h_k63, h_k97, h_k100, h_k122, h_k177, h_k255, h_k400, h_k450, h_k625, h_k649, h_k708, h_k800, h_k900, h_k2500, h_k22500, h_k45000, h_kn1, h_kn2, h_kJ, h_kU, h_eI, h_eL, h_eR, h_eT, h_b1, h_eZ, h_not, h_b2, h_b0, h_b0L, h_gI, h_gL, h_gN, h_gR, h_aI, h_aL, h_aR, h_aLen, h_tern, h_and, h_or, h_vN, h_vI, h_vJ, h_vA, h_cFv, h_cFs, h_toI, h_toL, h_toV, h_nO, h_nA, g_skip, g_brk, g_cnt, g_retV, g_seq, g_if, g_setI, g_setR, g_setL, g_inc, g_putI, g_putZ, g_putL, g_putR, g_upI, g_AI, g_AL, g_AR, g_UA, g_exp, g_retI, g_retL, g_retZ, g_scope, g_unBrk, g_sup, h_fn, argE_n, argE_i, argE_r, argE_l, argE_a, sto_0, sto_s, sto_n0, sto_ns, isL_i, isL_r, isL_n, isL_a, isL_l, isL_0, rcv_r, rcv_a, List.getElem?_cons_zero, List.getElem?_cons_succ, List.getElem?_nil, List.set_cons_zero, List.set_cons_succ, List.take_succ_cons, List.take_zero, List.take_nil, List.length_cons, List.length_nil, List.nil_append, List.cons_append, Nat.reduceAdd, Nat.reduceSub, Nat.reduceLT, Nat.reduceEqDiff, Nat.reduceLeDiff, Nat.zero_add, Nat.lt_irrefl, Nat.succ_sub_one, and_true, true_and, and_false, false_and, not_false_eq_true, not_true_eq_false, Bool.false_eq_true, Bool.not_true, Bool.not_false, Bool.not_eq_true', Bool.true_eq_false, decide_true, decide_false, decide_eq_true_eq, decide_eq_false_iff_not, Option.some.injEq, and_self, Nat.add_one_sub_one, Nat.lt_add_one, Nat.zero_lt_succ, Value.int.injEq, Value.ref.injEq, Value.long.injEq, exists_eq_left', exists_eq_left, Sum.inl.injEq, Sum.inr.injEq, i2z_b2i, n32_add, n32_mul, n32_inc]
        refine ⟨x, rfl, fun e => ?_⟩
        rw [J]
        constructor
        · rintro ⟨z1, z2⟩; exact ⟨by omega, z2⟩
        · rintro ⟨z1, z2⟩
          by_cases q : e = k
          · subst q; rw [jv.mpr z2] at ej; cases ej
          · exact ⟨by omega, z2⟩
      · simp (disch := omega) only [hR_d, hT_d, hI_t, hI_f, hVI_s, hVL_s, hVR_s, hVT_s, hVV_s, hO_s, hB_0, hB_1, hB_2, hB_r, hU_0, hU_1, hU_2, hU_r, hX_r, hL_0, hL_1, hL_2, hL_r, hC_s, h_k0, h_k1, h_k2, h_k3, h_k4, h_k5, h_k6, h_k7, h_k8, h_k9, h_k10, h_k11, h_k12, h_k14, h_k16, h_k18, h_k20, h_k23, h_k24, h_k25, h_k32, h_k44, h_k48, h_k50, h_k54, h_k57, h_k58, h_k59, h_k60, h_k63, h_k97, h_k100, h_k122, h_k177, h_k255, h_k400, h_k450, h_k625, h_k649, h_k708, h_k800, h_k900, h_k2500, h_k22500, h_k45000, h_kn1, h_kn2, h_kJ, h_kU, h_eI, h_eL, h_eR, h_eT, h_b1, h_eZ, h_not, h_b2, h_b0, h_b0L, h_gI, h_gL, h_gN, h_gR, h_aI, h_aL, h_aR, h_aLen, h_tern, h_and, h_or, h_vN, h_vI, h_vJ, h_vA, h_cFv, h_cFs, h_toI, h_toL, h_toV, h_nO, h_nA, g_skip, g_brk, g_cnt, g_retV, g_seq, g_if, g_setI, g_setR, g_setL, g_inc, g_putI, g_putZ, g_putL, g_putR, g_upI, g_AI, g_AL, g_AR, g_UA, g_exp, g_retI, g_retL, g_retZ, g_scope, g_unBrk, g_sup, h_fn, argE_n, argE_i, argE_r, argE_l, argE_a, sto_0, sto_s, sto_n0, sto_ns, isL_i, isL_r, isL_n, isL_a, isL_l, isL_0, rcv_r, rcv_a, List.getElem?_cons_zero, List.getElem?_cons_succ, List.getElem?_nil, List.set_cons_zero, List.set_cons_succ, List.take_succ_cons, List.take_zero, List.take_nil, List.length_cons, List.length_nil, List.nil_append, List.cons_append, Nat.reduceAdd, Nat.reduceSub, Nat.reduceLT, Nat.reduceEqDiff, Nat.reduceLeDiff, Nat.zero_add, Nat.lt_irrefl, Nat.succ_sub_one, and_true, true_and, and_false, false_and, not_false_eq_true, not_true_eq_false, Bool.false_eq_true, Bool.not_true, Bool.not_false, Bool.not_eq_true', Bool.true_eq_false, decide_true, decide_false, decide_eq_true_eq, decide_eq_false_iff_not, Option.some.injEq, and_self, Nat.add_one_sub_one, Nat.lt_add_one, Nat.zero_lt_succ, Value.int.injEq, Value.ref.injEq, Value.long.injEq, exists_eq_left', exists_eq_left, Sum.inl.injEq, Sum.inr.injEq, i2z_b2i, n32_add, n32_mul, n32_inc]
        refine ⟨_, rfl, fun e => ?_⟩
        rw [bt_or, Bool.or_eq_true, J, k_1, bt_shl (by omega), decide_eq_true_eq]
        constructor
        · rintro (⟨z1, z2⟩ | rfl)
          · exact ⟨by omega, z2⟩
          · exact ⟨by omega, jv.mp ej⟩
        · rintro ⟨z1, z2⟩
          by_cases q : e = k
          · exact Or.inr q
          · exact Or.inl ⟨by omega, z2⟩
    · rintro e m ⟨x, rfl, rfl, J⟩
      simp (disch := omega) only [hR_d, hT_d, hI_t, hI_f, hVI_s, hVL_s, hVR_s, hVT_s, hVV_s, hO_s, hB_0, hB_1, hB_2, hB_r, hU_0, hU_1, hU_2, hU_r, hX_r, hL_0, hL_1, hL_2, hL_r, hC_s, h_k0, h_k1, h_k2, h_k3, h_k4, h_k5, h_k6, h_k7, h_k8, h_k9, h_k10, h_k11, h_k12, h_k14, h_k16, h_k18, h_k20, h_k23, h_k24, h_k25, h_k32, h_k44, h_k48, h_k50, h_k54, h_k57, h_k58, h_k59, h_k60, h_k63, h_k97, h_k100, h_k122, h_k177, h_k255, h_k400, h_k450, h_k625, h_k649, h_k708, h_k800, h_k900, h_k2500, h_k22500, h_k45000, h_kn1, h_kn2, h_kJ, h_kU, h_eI, h_eL, h_eR, h_eT, h_b1, h_eZ, h_not, h_b2, h_b0, h_b0L, h_gI, h_gL, h_gN, h_gR, h_aI, h_aL, h_aR, h_aLen, h_tern, h_and, h_or, h_vN, h_vI, h_vJ, h_vA, h_cFv, h_cFs, h_toI, h_toL, h_toV, h_nO, h_nA, g_skip, g_brk, g_cnt, g_retV, g_seq, g_if, g_setI, g_setR, g_setL, g_inc, g_putI, g_putZ, g_putL, g_putR, g_upI, g_AI, g_AL, g_AR, g_UA, g_exp, g_retI, g_retL, g_retZ, g_scope, g_unBrk, g_sup, h_fn, argE_n, argE_i, argE_r, argE_l, argE_a, sto_0, sto_s, sto_n0, sto_ns, isL_i, isL_r, isL_n, isL_a, isL_l, isL_0, rcv_r, rcv_a, List.getElem?_cons_zero, List.getElem?_cons_succ, List.getElem?_nil, List.set_cons_zero, List.set_cons_succ, List.take_succ_cons, List.take_zero, List.take_nil, List.length_cons, List.length_nil, List.nil_append, List.cons_append, Nat.reduceAdd, Nat.reduceSub, Nat.reduceLT, Nat.reduceEqDiff, Nat.reduceLeDiff, Nat.zero_add, Nat.lt_irrefl, Nat.succ_sub_one, and_true, true_and, and_false, false_and, not_false_eq_true, not_true_eq_false, Bool.false_eq_true, Bool.not_true, Bool.not_false, Bool.not_eq_true', Bool.true_eq_false, decide_true, decide_false, decide_eq_true_eq, decide_eq_false_iff_not, Option.some.injEq, and_self, Nat.add_one_sub_one, Nat.lt_add_one, Nat.zero_lt_succ, Value.int.injEq, Value.ref.injEq, Value.long.injEq, exists_eq_left', exists_eq_left, Sum.inl.injEq, Sum.inr.injEq, i2z_b2i, n32_add, n32_mul, n32_inc, n_iEq, n_iNe, n_iLt, n_iLe, n_iGt, n_iGe, n_zEq, n_zLt, n_zLe, n_zGt, n_zGe, n_inb, n32_clamp, h.T.t, h.V.kinds]
      exact J
  obtain ⟨w, m, h1, x, rfl, rfl, h2⟩ := h_ex key
  exact ⟨x, h1, h2⟩
/-- the left's rows are told -/
def LPt (M : qM) (B : Nat) (p : Pl) (lo : Lo) (i j a b : Nat) (m : qM) (l : List Nat) : Prop := Fr (bS B) M m ∧ (∀ q, q ≠ 7 → vi m (B + 54) q = vi M (B + 54) q) ∧ vi m (B + 54) 7 = n32 a ∧ l.length = a ∧ Grd (VT p lo i j a b) l ∧ Ext (VT p lo i j a b) l ∧ (∀ q, q < a → vi m (B + 55) q = n32 (l.getD q 0)) ∧ (∀ c, c < 2 → vi m (B + 56) c = n32 (useL p c l)) ∧ ∀ c, c < 2 → vi m (B + 56) (1 * 2 + c) = n32 0
def RPt (M : qM) (B : Nat) (p : Pl) (lo : Lo) (i j a b : Nat) (m : qM) (t : List Nat) : Prop := Fr (bS B) M m ∧ (∀ q, q ≠ 7 → vi m (B + 54) q = vi M (B + 54) q) ∧ t.length = a + b ∧ Grd (VT p lo i j a b) t ∧ (∀ q, q < a + b → vi m (B + 55) q = n32 (t.getD q 0)) ∧ (∀ c, c < 2 → vi m (B + 56) c = n32 (useL p c (t.take a))) ∧ ∀ c, c < 2 → vi m (B + 56) (1 * 2 + c) = n32 (useL p c (t.drop a))
theorem q_tellRows (h : PlanAt M P p) (S : ScrT M B) (g : LoomAt M L (pK p) lo) (hd : P + 12 < B + 45 ∨ B + 64 < P) (hL : L + 4 < B + 45 ∨ B + 64 < L) {i j a b : Nat} (hi : i ≤ lC lo 0) (hj : j ≤ lC lo 1) (hm : mtB p lo i j a b = true) (E0 : ES M B p lo 0 i) (E1 : ES M B p lo 1 j) (F : BF4 M B i j a b) : ∃ M' t, f_X0_tellRows [.ref (B + 54), .ref P, .ref L, .ref (B + 45)] M = some (none, M') ∧ RPt M B p lo i j a b M' t := by
  have hK := h.O.kinds
  obtain ⟨ha, hb⟩ := mtB_le hm
  obtain ⟨t0, ht0⟩ := (jn_VT h.O g.O).mp (mtB_true.mp hm).2.2.2
  obtain ⟨v1, v2, v3, v4⟩ := F
  have s00 := g.O.st 0 0 (by decide) (by decide)
  have s01 := g.O.st 0 1 (by decide) (by decide)
  have s10 := g.O.st 1 0 (by decide) (by decide)
  have s11 := g.O.st 1 1 (by decide) (by decide)
  have ol0 : ∀ r, lastO lo 0 i = some r → r < pK p := fun r e => lastO_lt g.O (by decide) e
  have ol1 : ∀ r, lastO lo 1 j = some r → r < pK p := fun r e => lastO_lt g.O (by decide) e
  obtain ⟨M1, e1, f1, z1⟩ := q_fillI S.t56 (by decide) (n32 0)
  have S1 := S.fr f1
  obtain ⟨M2, hM2⟩ : ∃ M2, M2 = pI M1 (B + 54) 7 (n32 0) := ⟨_, rfl⟩
  have F2 : Fr (tS B) M M2 := by rw [hM2]; exact (f1.mono (fun a z => Or.inr (Or.inr z))).pI _ _ (Or.inl rfl)
  have F2b : Fr (bS B) M M2 := F2.mono (fun a z => by unfold tS at z; unfold bS; omega)
  have S2 := S.fr F2
  have h2 := h.fr F2 (fun a z1 z2 z3 => by unfold tS at z3; omega)
  have g2 := g.fr F2 (fun a z1 z2 z3 => by unfold tS at z3; omega)
  have U2 : ∀ q, q ≠ 7 → vi M2 (B + 54) q = vi M (B + 54) q := fun q hq => by rw [hM2, vi_nk hq, f1.vi (by omega)]
  have T2 : vi M2 (B + 54) 7 = n32 0 := by rw [hM2, vi_self]
  have tk2 : ∀ c, c < 4 → vi M2 (B + 56) c = n32 0 := fun c hc => by rw [hM2, vi_ne (by omega)]; exact z1 c hc
  have leftS : hS tlL [.ref (B + 54), .ref P, .ref L, .ref (B + 45), .int (oI (lastO lo 0 i)), .int (oI (lastO lo 1 j)), .ref (B + 46)] M2 (fun r e m => r = .inl 0 ∧ e = [.ref (B + 54), .ref P, .ref L, .ref (B + 45), .int (oI (lastO lo 0 i)), .int (oI (lastO lo 1 j)), .ref (B + 46)] ∧ ∃ l, LPt M B p lo i j a b m l) () := by
    delta tlL
    by_cases a0 : 0 < a
    · obtain ⟨M3, e3, f3, V3⟩ := q_headBack h2 S2 hd
      have F3 : Fr (bS B) M M3 := F2b.trans (f3.mono (fun a z => by unfold bS; omega))
      have S3 := S.fr F3
      have h3 := h.fr F3 (fun a z1 z2 z3 => by unfold bS at z3; omega)
      have g3 := g.fr F3 (fun a z1 z2 z3 => by unfold bS at z3; omega)
      have U3 : ∀ q, q ≠ 7 → vi M3 (B + 54) q = vi M (B + 54) q := fun q hq => by rw [f3.vi (by omega)]; exact U2 q hq
      have B3 : BF4 M3 B i j a b := ⟨by rw [U3 1 (by decide)]; exact v1, by rw [U3 2 (by decide)]; exact v2, by rw [U3 3 (by decide)]; exact v3, by rw [U3 4 (by decide)]; exact v4⟩
      have E03 : ES M3 B p lo 0 i := (E0.fr F2 (by unfold tS; omega)).fr f3 (by omega)
      have E13 : ES M3 B p lo 1 j := (E1.fr F2 (by unfold tS; omega)).fr f3 (by omega)
      obtain ⟨x, ex, bx⟩ := q_meetingLefts h3 S3 g3 hi hj hm E03 E13 B3
      obtain ⟨M4, e4, I4⟩ := q_spread h3 S3 hd V3 x (st0 := lS lo 0 0) (st1 := lS lo 0 1) (most := a) (by omega) (by omega) (by omega)
      rw [Nat.min_eq_left s00, Nat.min_eq_left s01, Nat.min_eq_left ha] at I4
      obtain ⟨f4, lg, W4, -⟩ := I4
      have F4 : Fr (bS B) M M4 := F3.trans (f4.mono (fun a z => by unfold spS at z; unfold bS; omega))
      have S4 := S.fr F4
      have h4 := h.fr F4 (fun a z1 z2 z3 => by unfold bS at z3; omega)
      have u4 : ∀ c, B + 51 ≤ c → ∀ q, vi M4 c q = vi M2 c q := fun c hc q => by rw [f4.vi (by unfold spS; omega), f3.vi (by omega)]
      obtain ⟨al, eal, bal⟩ := q_behindO h4 (s := 0) (by decide) ol0
      obtain ⟨M5, w, e5, f5, hw, G5, E5, U5, T5, sq5, tk5, ut5⟩ := q_tellSide h4 S4 hd (s := 0) (by decide) W4 (V := VT p lo i j a b) (rows := a) ha (pre := []) (by simp) al
        (fun w hw hE => by
          have hE : Ext (VT p lo i j a b) w := hE
          obtain ⟨r, q1, q2⟩ := Ext_step hE (by omega)
          have hc := Ext_chw (by omega) hE
          exact ⟨⟨r, q1, q2⟩, hc.2.2.1, hc.2.2.2⟩)
        (fun w hw hE r => by
          have hE : Ext (VT p lo i j a b) w := hE
          have := H_left h.O (fun e => bx e) (r := r) hw hE
          rw [show (bt al) = folO p 0 (lastO lo 0 i) from funext bal]
          exact this)
        (Grd.nil _) ⟨t0, ht0⟩ (by rw [u4 _ (by omega)]; exact T2) (fun q hq => by simp at hq) (fun c hc => by rw [u4 _ (by omega)]; exact tk2 _ (by omega))
      have w23 : vi M4 (B + 54) 3 = n32 a := by rw [u4 _ (by omega), U2 3 (by decide)]; exact v3
      have x3 : vi M3 (B + 54) 3 = n32 a := B3.2.2.1
      simp (disch := omega) only [hR_d, hT_d, hI_t, hI_f, hVI_s, hVL_s, hVR_s, hVT_s, hVV_s, hO_s, hB_0, hB_1, hB_2, hB_r, hU_0, hU_1, hU_2, hU_r, hX_r, hL_0, hL_1, hL_2, hL_r, hC_s, h_k0, h_k1, h_k2, h_k3, h_k4, h_k5, h_k6, h_k7, h_k8, h_k9, h_k10, h_k11, h_k12, h_k14, h_k16, h_k18, h_k20, h_k23, h_k24, h_k25, h_k32, h_k44, h_k48, h_k50, h_k54, h_k57, h_k58, h_k59, h_k60, h_k63, h_k97, h_k100, h_k122, h_k177, h_k255, h_k400, h_k450, h_k625, h_k649, h_k708, h_k800, h_k900, h_k2500, h_k22500, h_k45000, h_kn1, h_kn2, h_kJ, h_kU, h_eI, h_eL, h_eR, h_eT, h_b1, h_eZ, h_not, h_b2, h_b0, h_b0L, h_gI, h_gL, h_gN, h_gR, h_aI, h_aL, h_aR, h_aLen, h_tern, h_and, h_or, h_vN, h_vI, h_vJ, h_vA, h_cFv, h_cFs, h_toI, h_toL, h_toV, h_nO, h_nA, g_skip, g_brk, g_cnt, g_retV, g_seq, g_if, g_setI, g_setR, g_setL, g_inc, g_putI, g_putZ, g_putL, g_putR, g_upI, g_AI, g_AL, g_AR, g_UA, g_exp, g_retI, g_retL, g_retZ, g_scope, g_unBrk, g_sup, h_fn, argE_n, argE_i, argE_r, argE_l, argE_a, sto_0, sto_s, sto_n0, sto_ns, isL_i, isL_r, isL_n, isL_a, isL_l, isL_0, rcv_r, rcv_a, List.getElem?_cons_zero, List.getElem?_cons_succ, List.getElem?_nil, List.set_cons_zero, List.set_cons_succ, List.take_succ_cons, List.take_zero, List.take_nil, List.length_cons, List.length_nil, List.nil_append, List.cons_append, Nat.reduceAdd, Nat.reduceSub, Nat.reduceLT, Nat.reduceEqDiff, Nat.reduceLeDiff, Nat.zero_add, Nat.lt_irrefl, Nat.succ_sub_one, and_true, true_and, and_false, false_and, not_false_eq_true, not_true_eq_false, Bool.false_eq_true, Bool.not_true, Bool.not_false, Bool.not_eq_true', Bool.true_eq_false, decide_true, decide_false, decide_eq_true_eq, decide_eq_false_iff_not, Option.some.injEq, and_self, Nat.add_one_sub_one, Nat.lt_add_one, Nat.zero_lt_succ, Value.int.injEq, Value.ref.injEq, Value.long.injEq, exists_eq_left', exists_eq_left, Sum.inl.injEq, Sum.inr.injEq, i2z_b2i, n32_add, n32_mul, n32_inc, n_iEq, n_iNe, n_iLt, n_iLe, n_iGt, n_iGe, n_zEq, n_zLt, n_zLe, n_zGt, n_zGe, n_inb, n32_clamp, S2.t54, U2 3 (by decide), v3, a0, S2.t46, h_of e3, S3.t46, S3.t54, x3, h_of ex, g3.T.t, h_of (q_storeOf g3 (show 0 < 2 by decide) (show 0 < 2 by decide)), h_of (q_storeOf g3 (show 0 < 2 by decide) (show 1 < 2 by decide)), h_of e4, S4.t54, w23, h4.T.t, h_of eal, h_of e5]
      refine ⟨w, F4.trans (f5.mono (fun a z => by unfold tS at z; unfold bS; omega)), fun q hq => by rw [U5 q hq, u4 _ (by omega)]; exact U2 q hq, by simpa using T5, hw, G5, E5, fun q hq => by simpa using sq5 q (by simpa using hq), fun c hc => by simpa using tk5 c hc, fun c hc => ?_⟩
      rw [ut5 _ (by omega), u4 _ (by omega)]
      exact tk2 _ (by omega)
    · have ae : a = 0 := by omega
      subst ae
      simp (disch := omega) only [hR_d, hT_d, hI_t, hI_f, hVI_s, hVL_s, hVR_s, hVT_s, hVV_s, hO_s, hB_0, hB_1, hB_2, hB_r, hU_0, hU_1, hU_2, hU_r, hX_r, hL_0, hL_1, hL_2, hL_r, hC_s, h_k0, h_k1, h_k2, h_k3, h_k4, h_k5, h_k6, h_k7, h_k8, h_k9, h_k10, h_k11, h_k12, h_k14, h_k16, h_k18, h_k20, h_k23, h_k24, h_k25, h_k32, h_k44, h_k48, h_k50, h_k54, h_k57, h_k58, h_k59, h_k60, h_k63, h_k97, h_k100, h_k122, h_k177, h_k255, h_k400, h_k450, h_k625, h_k649, h_k708, h_k800, h_k900, h_k2500, h_k22500, h_k45000, h_kn1, h_kn2, h_kJ, h_kU, h_eI, h_eL, h_eR, h_eT, h_b1, h_eZ, h_not, h_b2, h_b0, h_b0L, h_gI, h_gL, h_gN, h_gR, h_aI, h_aL, h_aR, h_aLen, h_tern, h_and, h_or, h_vN, h_vI, h_vJ, h_vA, h_cFv, h_cFs, h_toI, h_toL, h_toV, h_nO, h_nA, g_skip, g_brk, g_cnt, g_retV, g_seq, g_if, g_setI, g_setR, g_setL, g_inc, g_putI, g_putZ, g_putL, g_putR, g_upI, g_AI, g_AL, g_AR, g_UA, g_exp, g_retI, g_retL, g_retZ, g_scope, g_unBrk, g_sup, h_fn, argE_n, argE_i, argE_r, argE_l, argE_a, sto_0, sto_s, sto_n0, sto_ns, isL_i, isL_r, isL_n, isL_a, isL_l, isL_0, rcv_r, rcv_a, List.getElem?_cons_zero, List.getElem?_cons_succ, List.getElem?_nil, List.set_cons_zero, List.set_cons_succ, List.take_succ_cons, List.take_zero, List.take_nil, List.length_cons, List.length_nil, List.nil_append, List.cons_append, Nat.reduceAdd, Nat.reduceSub, Nat.reduceLT, Nat.reduceEqDiff, Nat.reduceLeDiff, Nat.zero_add, Nat.lt_irrefl, Nat.succ_sub_one, and_true, true_and, and_false, false_and, not_false_eq_true, not_true_eq_false, Bool.false_eq_true, Bool.not_true, Bool.not_false, Bool.not_eq_true', Bool.true_eq_false, decide_true, decide_false, decide_eq_true_eq, decide_eq_false_iff_not, Option.some.injEq, and_self, Nat.add_one_sub_one, Nat.lt_add_one, Nat.zero_lt_succ, Value.int.injEq, Value.ref.injEq, Value.long.injEq, exists_eq_left', exists_eq_left, Sum.inl.injEq, Sum.inr.injEq, i2z_b2i, n32_add, n32_mul, n32_inc, n_iEq, n_iNe, n_iLt, n_iLe, n_iGt, n_iGe, n_zEq, n_zLt, n_zLe, n_zGt, n_zGe, n_inb, n32_clamp, S2.t54, U2 3 (by decide), v3]
      exact ⟨[], F2b, U2, T2, rfl, Grd.nil _, ⟨t0, ht0⟩, fun q hq => by omega, fun c hc => tk2 c (by omega), fun c hc => tk2 _ (by omega)⟩
  have rightS : ∀ m l x, LPt M B p lo i j a b m l → lastL (lastO lo 0 i) l = some x → x < pK p → chL p lo 0 i l → hS tlR [.ref (B + 54), .ref P, .ref L, .ref (B + 45), .int (oI (lastO lo 0 i)), .int (oI (lastO lo 1 j)), .ref (B + 46), .int (n32 x)] m (fun r e m => r = .inl 0 ∧ ∃ t, RPt M B p lo i j a b m t) () := by
    intro m l x hLP hx hxk hc
    obtain ⟨F5, U5, T5, hl, G5, E5, sq5, tk5, tz5⟩ := hLP
    have S5 := S.fr F5
    have h5 := h.fr F5 (fun a z1 z2 z3 => by unfold bS at z3; omega)
    have g5 := g.fr F5 (fun a z1 z2 z3 => by unfold bS at z3; omega)
    delta tlR
    by_cases b0 : 0 < b
    · obtain ⟨M6, e6, f6, V6⟩ := q_headInward h5 S5 hd (s := 1) (by decide)
      have F6 : Fr (bS B) M M6 := F5.trans (f6.mono (fun a z => by unfold bS; omega))
      have S6 := S.fr F6
      have h6 := h.fr F6 (fun a z1 z2 z3 => by unfold bS at z3; omega)
      have g6 := g.fr F6 (fun a z1 z2 z3 => by unfold bS at z3; omega)
      obtain ⟨y, ey, by'⟩ := q_behindO h6 (s := 1) (by decide) ol1
      have bye : bt y = folO p 1 (lastO lo 1 j) := funext by'
      obtain ⟨M7, e7, I7⟩ := q_spread h6 S6 hd V6 y (st0 := lS lo 1 0) (st1 := lS lo 1 1) (most := b) (by omega) (by omega) (by omega)
      rw [Nat.min_eq_left s10, Nat.min_eq_left s11, Nat.min_eq_left hb, bye] at I7
      obtain ⟨f7, lg, W7, -⟩ := I7
      have F7 : Fr (bS B) M M7 := F6.trans (f7.mono (fun a z => by unfold spS at z; unfold bS; omega))
      have S7 := S.fr F7
      have h7 := h.fr F7 (fun a z1 z2 z3 => by unfold bS at z3; omega)
      have u7 : ∀ c, B + 51 ≤ c → ∀ q, vi M7 c q = vi m c q := fun c hc q => by rw [f7.vi (by unfold spS; omega), f6.vi (by omega)]
      have bal : bt (vi M7 (P + 5) x) = pNx p x := funext (h7.V.nx x hxk)
      obtain ⟨M8, w, e8, f8, hw, G8, E8, U8, T8, sq8, tk8, ut8⟩ := q_tellSide h7 S7 hd (s := 1) (by decide) W7 (V := VT p lo i j a b) (rows := b) hb (pre := l) (by omega) (vi M7 (P + 5) x)
        (fun w hw hE => by
          obtain ⟨r, q1, q2⟩ := Ext_step hE (by simp; omega)
          obtain ⟨-, u, v, q3, q4, -⟩ := (right_core hl hw hc hx hE).mp q1.1
          exact ⟨⟨r, q1, q2⟩, by omega, by omega⟩)
        (fun w hw hE r => by
          rw [bal]
          exact H_right hl hw hc hx hE)
        G5 E5 (by rw [u7 _ (by omega), hl]; exact T5) (fun q hq => by rw [u7 _ (by omega)]; exact sq5 q (by omega)) (fun c hc => by rw [u7 _ (by omega)]; exact tz5 c hc)
      have x4 : vi m (B + 54) 4 = n32 b := by rw [U5 4 (by decide)]; exact v4
      have x46 : vi M6 (B + 54) 4 = n32 b := by rw [f6.vi (by omega)]; exact x4
      have x47 : vi M7 (B + 54) 4 = n32 b := by rw [u7 _ (by omega)]; exact x4
      simp (disch := omega) only [hR_d, hT_d, hI_t, hI_f, hVI_s, hVL_s, hVR_s, hVT_s, hVV_s, hO_s, hB_0, hB_1, hB_2, hB_r, hU_0, hU_1, hU_2, hU_r, hX_r, hL_0, hL_1, hL_2, hL_r, hC_s, h_k0, h_k1, h_k2, h_k3, h_k4, h_k5, h_k6, h_k7, h_k8, h_k9, h_k10, h_k11, h_k12, h_k14, h_k16, h_k18, h_k20, h_k23, h_k24, h_k25, h_k32, h_k44, h_k48, h_k50, h_k54, h_k57, h_k58, h_k59, h_k60, h_k63, h_k97, h_k100, h_k122, h_k177, h_k255, h_k400, h_k450, h_k625, h_k649, h_k708, h_k800, h_k900, h_k2500, h_k22500, h_k45000, h_kn1, h_kn2, h_kJ, h_kU, h_eI, h_eL, h_eR, h_eT, h_b1, h_eZ, h_not, h_b2, h_b0, h_b0L, h_gI, h_gL, h_gN, h_gR, h_aI, h_aL, h_aR, h_aLen, h_tern, h_and, h_or, h_vN, h_vI, h_vJ, h_vA, h_cFv, h_cFs, h_toI, h_toL, h_toV, h_nO, h_nA, g_skip, g_brk, g_cnt, g_retV, g_seq, g_if, g_setI, g_setR, g_setL, g_inc, g_putI, g_putZ, g_putL, g_putR, g_upI, g_AI, g_AL, g_AR, g_UA, g_exp, g_retI, g_retL, g_retZ, g_scope, g_unBrk, g_sup, h_fn, argE_n, argE_i, argE_r, argE_l, argE_a, sto_0, sto_s, sto_n0, sto_ns, isL_i, isL_r, isL_n, isL_a, isL_l, isL_0, rcv_r, rcv_a, List.getElem?_cons_zero, List.getElem?_cons_succ, List.getElem?_nil, List.set_cons_zero, List.set_cons_succ, List.take_succ_cons, List.take_zero, List.take_nil, List.length_cons, List.length_nil, List.nil_append, List.cons_append, Nat.reduceAdd, Nat.reduceSub, Nat.reduceLT, Nat.reduceEqDiff, Nat.reduceLeDiff, Nat.zero_add, Nat.lt_irrefl, Nat.succ_sub_one, and_true, true_and, and_false, false_and, not_false_eq_true, not_true_eq_false, Bool.false_eq_true, Bool.not_true, Bool.not_false, Bool.not_eq_true', Bool.true_eq_false, decide_true, decide_false, decide_eq_true_eq, decide_eq_false_iff_not, Option.some.injEq, and_self, Nat.add_one_sub_one, Nat.lt_add_one, Nat.zero_lt_succ, Value.int.injEq, Value.ref.injEq, Value.long.injEq, exists_eq_left', exists_eq_left, Sum.inl.injEq, Sum.inr.injEq, i2z_b2i, n32_add, n32_mul, n32_inc, n_iEq, n_iNe, n_iLt, n_iLe, n_iGt, n_iGe, n_zEq, n_zLt, n_zLe, n_zGt, n_zGe, n_inb, n32_clamp, S5.t54, x4, b0, S5.t46, h_of e6, S6.t46, S6.t54, x46, h6.T.t, h_of ey, g6.T.t, h_of (q_storeOf g6 (show 1 < 2 by decide) (show 0 < 2 by decide)), h_of (q_storeOf g6 (show 1 < 2 by decide) (show 1 < 2 by decide)), h_of e7, S7.t54, x47, h7.T.t, h7.T.r10, h7.T.t5, h_of e8]
      refine ⟨by omega, l ++ w, F7.trans (f8.mono (fun a z => by unfold tS at z; unfold bS; omega)), fun q hq => by rw [U8 q hq, u7 _ (by omega)]; exact U5 q hq, by simp [hl, hw], G8, fun q hq => sq8 q (by omega), fun c hc => ?_, fun c hc => ?_⟩
      · rw [ut8 _ (by omega), u7 _ (by omega), tk5 c hc, ← hl, List.take_left]
      · rw [tk8 c hc, ← hl, List.drop_left]
    · have be : b = 0 := by omega
      subst be
      have x4 : vi m (B + 54) 4 = n32 0 := by rw [U5 4 (by decide)]; exact v4
      simp (disch := omega) only [hR_d, hT_d, hI_t, hI_f, hVI_s, hVL_s, hVR_s, hVT_s, hVV_s, hO_s, hB_0, hB_1, hB_2, hB_r, hU_0, hU_1, hU_2, hU_r, hX_r, hL_0, hL_1, hL_2, hL_r, hC_s, h_k0, h_k1, h_k2, h_k3, h_k4, h_k5, h_k6, h_k7, h_k8, h_k9, h_k10, h_k11, h_k12, h_k14, h_k16, h_k18, h_k20, h_k23, h_k24, h_k25, h_k32, h_k44, h_k48, h_k50, h_k54, h_k57, h_k58, h_k59, h_k60, h_k63, h_k97, h_k100, h_k122, h_k177, h_k255, h_k400, h_k450, h_k625, h_k649, h_k708, h_k800, h_k900, h_k2500, h_k22500, h_k45000, h_kn1, h_kn2, h_kJ, h_kU, h_eI, h_eL, h_eR, h_eT, h_b1, h_eZ, h_not, h_b2, h_b0, h_b0L, h_gI, h_gL, h_gN, h_gR, h_aI, h_aL, h_aR, h_aLen, h_tern, h_and, h_or, h_vN, h_vI, h_vJ, h_vA, h_cFv, h_cFs, h_toI, h_toL, h_toV, h_nO, h_nA, g_skip, g_brk, g_cnt, g_retV, g_seq, g_if, g_setI, g_setR, g_setL, g_inc, g_putI, g_putZ, g_putL, g_putR, g_upI, g_AI, g_AL, g_AR, g_UA, g_exp, g_retI, g_retL, g_retZ, g_scope, g_unBrk, g_sup, h_fn, argE_n, argE_i, argE_r, argE_l, argE_a, sto_0, sto_s, sto_n0, sto_ns, isL_i, isL_r, isL_n, isL_a, isL_l, isL_0, rcv_r, rcv_a, List.getElem?_cons_zero, List.getElem?_cons_succ, List.getElem?_nil, List.set_cons_zero, List.set_cons_succ, List.take_succ_cons, List.take_zero, List.take_nil, List.length_cons, List.length_nil, List.nil_append, List.cons_append, Nat.reduceAdd, Nat.reduceSub, Nat.reduceLT, Nat.reduceEqDiff, Nat.reduceLeDiff, Nat.zero_add, Nat.lt_irrefl, Nat.succ_sub_one, and_true, true_and, and_false, false_and, not_false_eq_true, not_true_eq_false, Bool.false_eq_true, Bool.not_true, Bool.not_false, Bool.not_eq_true', Bool.true_eq_false, decide_true, decide_false, decide_eq_true_eq, decide_eq_false_iff_not, Option.some.injEq, and_self, Nat.add_one_sub_one, Nat.lt_add_one, Nat.zero_lt_succ, Value.int.injEq, Value.ref.injEq, Value.long.injEq, exists_eq_left', exists_eq_left, Sum.inl.injEq, Sum.inr.injEq, i2z_b2i, n32_add, n32_mul, n32_inc, n_iEq, n_iNe, n_iLt, n_iLe, n_iGt, n_iGe, n_zEq, n_zLt, n_zLe, n_zGt, n_zGe, n_inb, n32_clamp, S5.t54, x4]
      refine ⟨l, F5, U5, by omega, G5, fun q hq => sq5 q (by omega), fun c hc => ?_, fun c hc => ?_⟩
      · rw [List.take_of_length_le (by omega)]; exact tk5 c hc
      · rw [List.drop_of_length_le (by omega)]; exact tz5 c hc
  have key : hF f_X0_tellRows [.ref (B + 54), .ref P, .ref L, .ref (B + 45)] M (fun w M' => ∃ t, w = none ∧ RPt M B p lo i j a b M' t) () := by
    delta f_X0_tellRows
    rw [tl_eq]
    have w1 : vi M2 (B + 54) 1 = n32 i := by rw [U2 1 (by decide)]; exact v1
    have w2 : vi M2 (B + 54) 2 = n32 j := by rw [U2 2 (by decide)]; exact v2
    simp (disch := omega) only [hR_d, hT_d, hI_t, hI_f, hVI_s, hVL_s, hVR_s, hVT_s, hVV_s, hO_s, hB_0, hB_1, hB_2, hB_r, hU_0, hU_1, hU_2, hU_r, hX_r, hL_0, hL_1, hL_2, hL_r, hC_s, h_k0, h_k1, h_k2, h_k3, h_k4, h_k5, h_k6, h_k7, h_k8, h_k9, h_k10, h_k11, h_k12, h_k14, h_k16, h_k18, h_k20, h_k23, h_k24, h_k25, h_k32, h_k44, h_k48, h_k50, h_k54, h_k57, h_k58, h_k59, h_k60, h_k63, h_k97, h_k100, h_k122, h_k177, h_k255, h_k400, h_k450, h_k625, h_k649, h_k708, h_k800, h_k900, h_k2500, h_k22500, h_k45000, h_kn1, h_kn2, h_kJ, h_kU, h_eI, h_eL, h_eR, h_eT, h_b1, h_eZ, h_not, h_b2, h_b0, h_b0L, h_gI, h_gL, h_gN, h_gR, h_aI, h_aL, h_aR, h_aLen, h_tern, h_and, h_or, h_vN, h_vI, h_vJ, h_vA, h_cFv, h_cFs, h_toI, h_toL, h_toV, h_nO, h_nA, g_skip, g_brk, g_cnt, g_retV, g_seq, g_if, g_setI, g_setR, g_setL, g_inc, g_putI, g_putZ, g_putL, g_putR, g_upI, g_AI, g_AL, g_AR, g_UA, g_exp, g_retI, g_retL, g_retZ, g_scope, g_unBrk, g_sup, h_fn, argE_n, argE_i, argE_r, argE_l, argE_a, sto_0, sto_s, sto_n0, sto_ns, isL_i, isL_r, isL_n, isL_a, isL_l, isL_0, rcv_r, rcv_a, List.getElem?_cons_zero, List.getElem?_cons_succ, List.getElem?_nil, List.set_cons_zero, List.set_cons_succ, List.take_succ_cons, List.take_zero, List.take_nil, List.length_cons, List.length_nil, List.nil_append, List.cons_append, Nat.reduceAdd, Nat.reduceSub, Nat.reduceLT, Nat.reduceEqDiff, Nat.reduceLeDiff, Nat.zero_add, Nat.lt_irrefl, Nat.succ_sub_one, and_true, true_and, and_false, false_and, not_false_eq_true, not_true_eq_false, Bool.false_eq_true, Bool.not_true, Bool.not_false, Bool.not_eq_true', Bool.true_eq_false, decide_true, decide_false, decide_eq_true_eq, decide_eq_false_iff_not, Option.some.injEq, and_self, Nat.add_one_sub_one, Nat.lt_add_one, Nat.zero_lt_succ, Value.int.injEq, Value.ref.injEq, Value.long.injEq, exists_eq_left', exists_eq_left, Sum.inl.injEq, Sum.inr.injEq, i2z_b2i, n32_add, n32_mul, n32_inc, S.t54, S.b6, h_of e1, S1.t54, ← hM2, S2.t54, w1, w2, g2.T.t, h_of (q_lastAfter g2 (show 0 < 2 by decide) hi), h_of (q_lastAfter g2 (show 1 < 2 by decide) hj), S2.t45, S2.e0]
    refine leftS.mono ?_
    rintro re e m ⟨rfl, rfl, l, hLP⟩
    have hl := hLP.2.2.2.1
    obtain ⟨x, hx, hxk, hc⟩ := Ext_all g.O hl hLP.2.2.2.2.2.1
    have Sm := S.fr hLP.1
    have x3 : vi m (B + 54) 3 = n32 a := by rw [hLP.2.1 3 (by decide)]; exact v3
    have x7 := hLP.2.2.1
    by_cases a0 : 0 < a
    · have sx : vi m (B + 55) (a - 1) = n32 x := by
        rw [hLP.2.2.2.2.2.2.1 (a - 1) (by omega)]
        congr 1
        rcases List.eq_nil_or_concat l with rfl | ⟨l0, z, rfl⟩
        · simp at hl; omega
        · rw [List.concat_eq_append] at *
          have : z = x := by
            rw [lastL_last _ (show (l0 ++ [z]).getLast? = some z by simp)] at hx
            exact Option.some.inj hx
          subst this
          have : a - 1 = l0.length := by simp at hl; omega
          rw [this, gd_end]
      simp (disch := omega) only [hR_d, hT_d, hI_t, hI_f, hVI_s, hVL_s, hVR_s, hVT_s, hVV_s, hO_s, hB_0, hB_1, hB_2, hB_r, hU_0, hU_1, hU_2, hU_r, hX_r, hL_0, hL_1, hL_2, hL_r, hC_s, h_k0, h_k1, h_k2, h_k3, h_k4, h_k5, h_k6, h_k7, h_k8, h_k9, h_k10, h_k11, h_k12, h_k14, h_k16, h_k18, h_k20, h_k23, h_k24, h_k25, h_k32, h_k44, h_k48, h_k50, h_k54, h_k57, h_k58, h_k59, h_k60, h_k63, h_k97, h_k100, h_k122, h_k177, h_k255, h_k400, h_k450, h_k625, h_k649, h_k708, h_k800, h_k900, h_k2500, h_k22500, h_k45000, h_kn1, h_kn2, h_kJ, h_kU, h_eI, h_eL, h_eR, h_eT, h_b1, h_eZ, h_not, h_b2, h_b0, h_b0L, h_gI, h_gL, h_gN, h_gR, h_aI, h_aL, h_aR, h_aLen, h_tern, h_and, h_or, h_vN, h_vI, h_vJ, h_vA, h_cFv, h_cFs, h_toI, h_toL, h_toV, h_nO, h_nA, g_skip, g_brk, g_cnt, g_retV, g_seq, g_if, g_setI, g_setR, g_setL, g_inc, g_putI, g_putZ, g_putL, g_putR, g_upI, g_AI, g_AL, g_AR, g_UA, g_exp, g_retI, g_retL, g_retZ, g_scope, g_unBrk, g_sup, h_fn, argE_n, argE_i, argE_r, argE_l, argE_a, sto_0, sto_s, sto_n0, sto_ns, isL_i, isL_r, isL_n, isL_a, isL_l, isL_0, rcv_r, rcv_a, List.getElem?_cons_zero, List.getElem?_cons_succ, List.getElem?_nil, List.set_cons_zero, List.set_cons_succ, List.take_succ_cons, List.take_zero, List.take_nil, List.length_cons, List.length_nil, List.nil_append, List.cons_append, Nat.reduceAdd, Nat.reduceSub, Nat.reduceLT, Nat.reduceEqDiff, Nat.reduceLeDiff, Nat.zero_add, Nat.lt_irrefl, Nat.succ_sub_one, and_true, true_and, and_false, false_and, not_false_eq_true, not_true_eq_false, Bool.false_eq_true, Bool.not_true, Bool.not_false, Bool.not_eq_true', Bool.true_eq_false, decide_true, decide_false, decide_eq_true_eq, decide_eq_false_iff_not, Option.some.injEq, and_self, Nat.add_one_sub_one, Nat.lt_add_one, Nat.zero_lt_succ, Value.int.injEq, Value.ref.injEq, Value.long.injEq, exists_eq_left', exists_eq_left, Sum.inl.injEq, Sum.inr.injEq, i2z_b2i, n32_add, n32_mul, n32_inc, n_iEq, n_iNe, n_iLt, n_iLe, n_iGt, n_iGe, n_zEq, n_zLt, n_zLe, n_zGt, n_zGe, n_inb, n32_clamp, Sm.t54, x3, x7, a0, Sm.b5, Sm.t55, n32_sub, sx]
      refine ⟨by omega, (rightS m l x hLP hx hxk hc).mono ?_⟩
      rintro re e m' ⟨rfl, t, hR⟩
      simp (disch := omega) only [hR_d, hT_d, hI_t, hI_f, hVI_s, hVL_s, hVR_s, hVT_s, hVV_s, hO_s, hB_0, hB_1, hB_2, hB_r, hU_0, hU_1, hU_2, hU_r, hX_r, hL_0, hL_1, hL_2, hL_r, hC_s, h_k0, h_k1, h_k2, h_k3, h_k4, h_k5, h_k6, h_k7, h_k8, h_k9, h_k10, h_k11, h_k12, h_k14, h_k16, h_k18, h_k20, h_k23, h_k24, h_k25, h_k32, h_k44, h_k48, h_k50, h_k54, h_k57, h_k58, h_k59, h_k60, h_k63, h_k97, h_k100, h_k122, h_k177, h_k255, h_k400, h_k450, h_k625, h_k649, h_k708, h_k800, h_k900, h_k2500, h_k22500, h_k45000, h_kn1, h_kn2, h_kJ, h_kU, h_eI, h_eL, h_eR, h_eT, h_b1, h_eZ, h_not, h_b2, h_b0, h_b0L, h_gI, h_gL, h_gN, h_gR, h_aI, h_aL, h_aR, h_aLen, h_tern, h_and, h_or, h_vN, h_vI, h_vJ, h_vA, h_cFv, h_cFs, h_toI, h_toL, h_toV, h_nO, h_nA, g_skip, g_brk, g_cnt, g_retV, g_seq, g_if, g_setI, g_setR, g_setL, g_inc, g_putI, g_putZ, g_putL, g_putR, g_upI, g_AI, g_AL, g_AR, g_UA, g_exp, g_retI, g_retL, g_retZ, g_scope, g_unBrk, g_sup, h_fn, argE_n, argE_i, argE_r, argE_l, argE_a, sto_0, sto_s, sto_n0, sto_ns, isL_i, isL_r, isL_n, isL_a, isL_l, isL_0, rcv_r, rcv_a, List.getElem?_cons_zero, List.getElem?_cons_succ, List.getElem?_nil, List.set_cons_zero, List.set_cons_succ, List.take_succ_cons, List.take_zero, List.take_nil, List.length_cons, List.length_nil, List.nil_append, List.cons_append, Nat.reduceAdd, Nat.reduceSub, Nat.reduceLT, Nat.reduceEqDiff, Nat.reduceLeDiff, Nat.zero_add, Nat.lt_irrefl, Nat.succ_sub_one, and_true, true_and, and_false, false_and, not_false_eq_true, not_true_eq_false, Bool.false_eq_true, Bool.not_true, Bool.not_false, Bool.not_eq_true', Bool.true_eq_false, decide_true, decide_false, decide_eq_true_eq, decide_eq_false_iff_not, Option.some.injEq, and_self, Nat.add_one_sub_one, Nat.lt_add_one, Nat.zero_lt_succ, Value.int.injEq, Value.ref.injEq, Value.long.injEq, exists_eq_left', exists_eq_left, Sum.inl.injEq, Sum.inr.injEq, i2z_b2i, n32_add, n32_mul, n32_inc]
      exact ⟨t, hR⟩
    · have ae : a = 0 := by omega
      subst ae
      have ln : l = [] := List.length_eq_zero_iff.mp hl
      subst ln
      have hx' : lastO lo 0 i = some x := hx
      have ex : oI (lastO lo 0 i) = n32 x := by rw [hx']; rfl
      have r := rightS m [] x hLP hx hxk hc
      rw [ex] at r ⊢
      simp (disch := omega) only [hR_d, hT_d, hI_t, hI_f, hVI_s, hVL_s, hVR_s, hVT_s, hVV_s, hO_s, hB_0, hB_1, hB_2, hB_r, hU_0, hU_1, hU_2, hU_r, hX_r, hL_0, hL_1, hL_2, hL_r, hC_s, h_k0, h_k1, h_k2, h_k3, h_k4, h_k5, h_k6, h_k7, h_k8, h_k9, h_k10, h_k11, h_k12, h_k14, h_k16, h_k18, h_k20, h_k23, h_k24, h_k25, h_k32, h_k44, h_k48, h_k50, h_k54, h_k57, h_k58, h_k59, h_k60, h_k63, h_k97, h_k100, h_k122, h_k177, h_k255, h_k400, h_k450, h_k625, h_k649, h_k708, h_k800, h_k900, h_k2500, h_k22500, h_k45000, h_kn1, h_kn2, h_kJ, h_kU, h_eI, h_eL, h_eR, h_eT, h_b1, h_eZ, h_not, h_b2, h_b0, h_b0L, h_gI, h_gL, h_gN, h_gR, h_aI, h_aL, h_aR, h_aLen, h_tern, h_and, h_or, h_vN, h_vI, h_vJ, h_vA, h_cFv, h_cFs, h_toI, h_toL, h_toV, h_nO, h_nA, g_skip, g_brk, g_cnt, g_retV, g_seq, g_if, g_setI, g_setR, g_setL, g_inc, g_putI, g_putZ, g_putL, g_putR, g_upI, g_AI, g_AL, g_AR, g_UA, g_exp, g_retI, g_retL, g_retZ, g_scope, g_unBrk, g_sup, h_fn, argE_n, argE_i, argE_r, argE_l, argE_a, sto_0, sto_s, sto_n0, sto_ns, isL_i, isL_r, isL_n, isL_a, isL_l, isL_0, rcv_r, rcv_a, List.getElem?_cons_zero, List.getElem?_cons_succ, List.getElem?_nil, List.set_cons_zero, List.set_cons_succ, List.take_succ_cons, List.take_zero, List.take_nil, List.length_cons, List.length_nil, List.nil_append, List.cons_append, Nat.reduceAdd, Nat.reduceSub, Nat.reduceLT, Nat.reduceEqDiff, Nat.reduceLeDiff, Nat.zero_add, Nat.lt_irrefl, Nat.succ_sub_one, and_true, true_and, and_false, false_and, not_false_eq_true, not_true_eq_false, Bool.false_eq_true, Bool.not_true, Bool.not_false, Bool.not_eq_true', Bool.true_eq_false, decide_true, decide_false, decide_eq_true_eq, decide_eq_false_iff_not, Option.some.injEq, and_self, Nat.add_one_sub_one, Nat.lt_add_one, Nat.zero_lt_succ, Value.int.injEq, Value.ref.injEq, Value.long.injEq, exists_eq_left', exists_eq_left, Sum.inl.injEq, Sum.inr.injEq, i2z_b2i, n32_add, n32_mul, n32_inc, n_iEq, n_iNe, n_iLt, n_iLe, n_iGt, n_iGe, n_zEq, n_zLt, n_zLe, n_zGt, n_zGe, n_inb, n32_clamp, Sm.t54, x3]
      refine r.mono ?_
      rintro re e m' ⟨rfl, t, hR⟩
      simp (disch := omega) only [hR_d, hT_d, hI_t, hI_f, hVI_s, hVL_s, hVR_s, hVT_s, hVV_s, hO_s, hB_0, hB_1, hB_2, hB_r, hU_0, hU_1, hU_2, hU_r, hX_r, hL_0, hL_1, hL_2, hL_r, hC_s, h_k0, h_k1, h_k2, h_k3, h_k4, h_k5, h_k6, h_k7, h_k8, h_k9, h_k10, h_k11, h_k12, h_k14, h_k16, h_k18, h_k20, h_k23, h_k24, h_k25, h_k32, h_k44, h_k48, h_k50, h_k54, h_k57, h_k58, h_k59, h_k60, h_k63, h_k97, h_k100, h_k122, h_k177, h_k255, h_k400, h_k450, h_k625, h_k649, h_k708, h_k800, h_k900, h_k2500, h_k22500, h_k45000, h_kn1, h_kn2, h_kJ, h_kU, h_eI, h_eL, h_eR, h_eT, h_b1, h_eZ, h_not, h_b2, h_b0, h_b0L, h_gI, h_gL, h_gN, h_gR, h_aI, h_aL, h_aR, h_aLen, h_tern, h_and, h_or, h_vN, h_vI, h_vJ, h_vA, h_cFv, h_cFs, h_toI, h_toL, h_toV, h_nO, h_nA, g_skip, g_brk, g_cnt, g_retV, g_seq, g_if, g_setI, g_setR, g_setL, g_inc, g_putI, g_putZ, g_putL, g_putR, g_upI, g_AI, g_AL, g_AR, g_UA, g_exp, g_retI, g_retL, g_retZ, g_scope, g_unBrk, g_sup, h_fn, argE_n, argE_i, argE_r, argE_l, argE_a, sto_0, sto_s, sto_n0, sto_ns, isL_i, isL_r, isL_n, isL_a, isL_l, isL_0, rcv_r, rcv_a, List.getElem?_cons_zero, List.getElem?_cons_succ, List.getElem?_nil, List.set_cons_zero, List.set_cons_succ, List.take_succ_cons, List.take_zero, List.take_nil, List.length_cons, List.length_nil, List.nil_append, List.cons_append, Nat.reduceAdd, Nat.reduceSub, Nat.reduceLT, Nat.reduceEqDiff, Nat.reduceLeDiff, Nat.zero_add, Nat.lt_irrefl, Nat.succ_sub_one, and_true, true_and, and_false, false_and, not_false_eq_true, not_true_eq_false, Bool.false_eq_true, Bool.not_true, Bool.not_false, Bool.not_eq_true', Bool.true_eq_false, decide_true, decide_false, decide_eq_true_eq, decide_eq_false_iff_not, Option.some.injEq, and_self, Nat.add_one_sub_one, Nat.lt_add_one, Nat.zero_lt_succ, Value.int.injEq, Value.ref.injEq, Value.long.injEq, exists_eq_left', exists_eq_left, Sum.inl.injEq, Sum.inr.injEq, i2z_b2i, n32_add, n32_mul, n32_inc]
      exact ⟨t, hR⟩
  obtain ⟨w, m, h1, t, rfl, h2⟩ := h_ex key
  exact ⟨m, t, h1, h2⟩
end
