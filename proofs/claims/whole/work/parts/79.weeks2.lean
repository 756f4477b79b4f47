/-! WEEKS in the class -/
noncomputable def wkV (p : Pl) (lo : Lo) : Option (Nat × Nat × List Nat) := match bstO p lo with
  | none => none
  | some x => if x.1 + x.2.1 = 0 then some (x.2.2.1, x.2.2.2.1, x.2.2.2.2) else none
noncomputable def wkLo (p : Pl) (lo : Lo) (m k : Nat) : Lo := match wkV p lo with
  | none => lWk lo k
  | some x => lWk (lAdds p (lAdds p lo 0 (x.2.2.take (min m x.1))) 1 (x.2.2.reverse.take (min m x.2.1))) k
noncomputable def wkN (p : Pl) (lo : Lo) (m : Nat) : Nat := match wkV p lo with
  | none => 0
  | some x => min m x.1 + min m x.2.1
noncomputable def weeksA (A : Ab) (n : Int32) : Ab × Int32 := if aTd A = true then (match inO true 10 n with
  | none => (setTr A 2, -1)
  | some k => if k = 0 then (setTr A 2, -1) else (setTr (setLo (setAc A (keepL (aAc A) (aLm A))) (wkLo (aPn A) (aLm A) (k * pRate (aPn A)) k)) 0, n32 (wkN (aPn A) (aLm A) (k * pRate (aPn A))))) else (setTr A 1, -1)
def KB (M M' : qM) (B : Nat) : Prop := (∀ k, k ≠ 8 → vi M' (B + 54) k = vi M (B + 54) k) ∧ vi M' (B + 55) = vi M (B + 55) ∧ vi M' (B + 56) = vi M (B + 56)
theorem gd_mid (l u : List Nat) (x : Nat) : (l ++ x :: u).getD l.length 0 = x := by
  simp [List.getD_eq_getElem?_getD]
section
variable {M : qM} {B P P2 L L2 : Nat} {ac : Nat → Nat} {A : Ab} {p : Pl} {lo : Lo} {K : Nat}
theorem q_keepKB (h : Cls M B P P2 L L2 ac A) : ∃ M', f_X8_keepAct [.ref B] M = some (none, M') ∧ KB M M' B := by
  have hpl := h.T.pl
  have hn12 := h.V.nac12
  have key : hF f_X8_keepAct [.ref B] M (fun v M' => v = none ∧ KB M M' B) () := by
    have fin : ∀ (m M2 : qM) (x y : Int32) (a : Nat), vi m = vi M ∨ (∃ z, vi m = vi (pI M B 8 z)) → B + 65 ≤ a ∧ a + 4 < B + 125 → Fr (fun c => a ≤ c ∧ c ≤ a + 4) m M2 → KB M (pI (pI M2 B 8 x) (B + 54) 8 y) B := by
      intro m M2 x y a hv ha f
      have e : ∀ c, B + 54 ≤ c → c ≤ B + 56 → vi m c = vi M c := by
        intro c c1 c2
        rcases hv with hv | ⟨z, hv⟩
        · rw [hv]
        · rw [hv]
          funext q
          rw [vi_ne (by omega)]
      refine ⟨fun k hk => ?_, funext fun k => ?_, funext fun k => ?_⟩
      · rw [vi_nk hk, vi_ne (by omega), f.vi (by omega), e _ (by omega) (by omega)]
      · rw [vi_ne (by omega), vi_ne (by omega), f.vi (by omega), e _ (by omega) (by omega)]
      · rw [vi_ne (by omega), vi_ne (by omega), f.vi (by omega), e _ (by omega) (by omega)]
    delta f_X8_keepAct b_X8_keepAct
    by_cases e12 : 12 ≤ (aAc A).length
    · have en : (aAc A).length = 12 := by omega
      simp (disch := omega) only [hR_d, hT_d, hI_t, hI_f, hVI_s, hVL_s, hVR_s, hVT_s, hVV_s, hO_s, hB_0, hB_1, hB_2, hB_r, hU_0, hU_1, hU_2, hU_r, hX_r, hL_0, hL_1, hL_2, hL_r, hC_s, h_k0, h_k1, h_k2, h_k3, h_k4, h_k5, h_k6, h_k7, h_k8, h_k9, h_k10, h_k11, h_k12, h_k14, h_k16, h_k18, h_k20, h_k23, h_k24, h_k25, h_k32, h_k44, h_k48, h_k50, h_k54, h_k57, h_k58, h_k59, h_k60, h_k63, h_k97, h_k100, h_k122, h_k177, h_k255, h_k400, h_k450, h_k625, h_k649, h_k708, h_k800, h_k900, h_k2500, h_k22500, h_k45000, h_kn1, h_kn2, h_kJ, h_kU, h_eI, h_eL, h_eR, h_eT, h_b1, h_eZ, h_not, h_b2, h_b0, h_b0L, h_gI, h_gL, h_gN, h_gR, h_aI, h_aL, h_aR, h_aLen, h_tern, h_and, h_or, h_vN, h_vI, h_vJ, h_vA, h_cFv, h_cFs, h_toI, h_toL, h_toV, h_nO, h_nA, g_skip, g_brk, g_cnt, g_retV, g_seq, g_if, g_setI, g_setR, g_setL, g_inc, g_putI, g_putZ, g_putL, g_putR, g_upI, g_AI, g_AL, g_AR, g_UA, g_exp, g_retI, g_retL, g_retZ, g_scope, g_unBrk, g_sup, h_fn, argE_n, argE_i, argE_r, argE_l, argE_a, sto_0, sto_s, sto_n0, sto_ns, isL_i, isL_r, isL_n, isL_a, isL_l, isL_0, rcv_r, rcv_a, List.getElem?_cons_zero, List.getElem?_cons_succ, List.getElem?_nil, List.set_cons_zero, List.set_cons_succ, List.take_succ_cons, List.take_zero, List.take_nil, List.length_cons, List.length_nil, List.nil_append, List.cons_append, Nat.reduceAdd, Nat.reduceSub, Nat.reduceLT, Nat.reduceEqDiff, Nat.reduceLeDiff, Nat.zero_add, Nat.lt_irrefl, Nat.succ_sub_one, and_true, true_and, and_false, false_and, not_false_eq_true, not_true_eq_false, Bool.false_eq_true, Bool.not_true, Bool.not_false, Bool.not_eq_true', Bool.true_eq_false, decide_true, decide_false, decide_eq_true_eq, decide_eq_false_iff_not, Option.some.injEq, and_self, Nat.add_one_sub_one, Nat.lt_add_one, Nat.zero_lt_succ, Value.int.injEq, Value.ref.injEq, Value.long.injEq, exists_eq_left', exists_eq_left, Sum.inl.injEq, Sum.inr.injEq, i2z_b2i, n32_add, n32_mul, n32_inc, h.T.t, h.V.nac, e12, h.T.r7, h.T.t43, n_iEq, n_iNe, n_iLt, n_iLe, n_iGt, n_iGe, n_zEq, n_zLt, n_zLe, n_zGt, n_zGe, n_inb, n32_clamp, h.T.ra 0 (by decide)]
      refine h_up (fun j e m => e = [.ref B, .ref (ac 0), .int (n32 (j + 1))] ∧ FrR (B + 43) M m ∧ ∀ k, k < 12 → vr m (B + 43) k = some (if k < j then ac (k + 1) else ac k)) 11 ⟨rfl, FrR.refl _ _, fun k hk => by rw [h.T.ra k hk]; simp⟩ ?_ ?_
      · rintro j e m hj ⟨rfl, f, hv⟩
        have e0 := f.2.2.2.2 B (by omega)
        have hgv : vr m (B + 43) (j + 1) = some (ac (j + 1)) := by rw [hv _ (by omega), if_neg (by omega)]
        simp (disch := omega) only [hR_d, hT_d, hI_t, hI_f, hVI_s, hVL_s, hVR_s, hVT_s, hVV_s, hO_s, hB_0, hB_1, hB_2, hB_r, hU_0, hU_1, hU_2, hU_r, hX_r, hL_0, hL_1, hL_2, hL_r, hC_s, h_k0, h_k1, h_k2, h_k3, h_k4, h_k5, h_k6, h_k7, h_k8, h_k9, h_k10, h_k11, h_k12, h_k14, h_k16, h_k18, h_k20, h_k23, h_k24, h_k25, h_k32, h_k44, h_k48, h_k50, h_k54, h_k57, h_k58, h_k59, h_k60, h_k63, h_k97, h_k100, h_k122, h_k177, h_k255, h_k400, h_k450, h_k625, h_k649, h_k708, h_k800, h_k900, h_k2500, h_k22500, h_k45000, h_kn1, h_kn2, h_kJ, h_kU, h_eI, h_eL, h_eR, h_eT, h_b1, h_eZ, h_not, h_b2, h_b0, h_b0L, h_gI, h_gL, h_gN, h_gR, h_aI, h_aL, h_aR, h_aLen, h_tern, h_and, h_or, h_vN, h_vI, h_vJ, h_vA, h_cFv, h_cFs, h_toI, h_toL, h_toV, h_nO, h_nA, g_skip, g_brk, g_cnt, g_retV, g_seq, g_if, g_setI, g_setR, g_setL, g_inc, g_putI, g_putZ, g_putL, g_putR, g_upI, g_AI, g_AL, g_AR, g_UA, g_exp, g_retI, g_retL, g_retZ, g_scope, g_unBrk, g_sup, h_fn, argE_n, argE_i, argE_r, argE_l, argE_a, sto_0, sto_s, sto_n0, sto_ns, isL_i, isL_r, isL_n, isL_a, isL_l, isL_0, rcv_r, rcv_a, List.getElem?_cons_zero, List.getElem?_cons_succ, List.getElem?_nil, List.set_cons_zero, List.set_cons_succ, List.take_succ_cons, List.take_zero, List.take_nil, List.length_cons, List.length_nil, List.nil_append, List.cons_append, Nat.reduceAdd, Nat.reduceSub, Nat.reduceLT, Nat.reduceEqDiff, Nat.reduceLeDiff, Nat.zero_add, Nat.lt_irrefl, Nat.succ_sub_one, and_true, true_and, and_false, false_and, not_false_eq_true, not_true_eq_false, Bool.false_eq_true, Bool.not_true, Bool.not_false, Bool.not_eq_true', Bool.true_eq_false, decide_true, decide_false, decide_eq_true_eq, decide_eq_false_iff_not, Option.some.injEq, and_self, Nat.add_one_sub_one, Nat.lt_add_one, Nat.zero_lt_succ, Value.int.injEq, Value.ref.injEq, Value.long.injEq, exists_eq_left', exists_eq_left, Sum.inl.injEq, Sum.inr.injEq, i2z_b2i, n32_add, n32_mul, n32_inc, n_iEq, n_iNe, n_iLt, n_iLe, n_iGt, n_iGe, n_zEq, n_zLt, n_zLe, n_zGt, n_zGe, n_inb, n32_clamp, show j + 1 < 12 by omega, f.2.1, e0, h.T.t, h.T.r7, h.T.t43, hgv, n32_sub, (h.T.Ta (j + 1) (by omega)).t, Nat.add_sub_cancel]
        refine ⟨by omega, f.pR _ _, fun k hk => ?_⟩
        rw [vr_pR]
        by_cases ek : k = j
        · subst ek
          rw [if_pos ⟨rfl, rfl⟩, if_pos (by omega)]
        · rw [if_neg (fun z => ek z.2), hv k hk]
          by_cases ek2 : k < j
          · rw [if_pos ek2, if_pos (by omega)]
          · rw [if_neg ek2, if_neg (by omega)]
      · rintro e m ⟨rfl, f, hv⟩
        have e0 := f.2.2.2.2 B (by omega)
        have f1 := f.pR 11 (some (ac 0))
        obtain ⟨m1, hm1⟩ : ∃ m1, m1 = pI (pR m (B + 43) 11 (some (ac 0))) B 8 (n32 11) := ⟨_, rfl⟩
        have tg1 : tg m1 = tg M := by rw [hm1]; exact f1.2.1
        have vr1 : ∀ b, b ≠ B + 43 → vr m1 b = vr M b := fun b hb => by rw [hm1]; exact f1.2.2.2.2 b hb
        have vr43 : vr m1 (B + 43) 11 = some (ac 0) := by rw [hm1]; show vr (pR m (B + 43) 11 (some (ac 0))) (B + 43) 11 = _; rw [vr_pR, if_pos ⟨rfl, rfl⟩]
        have vi1 : vi m1 = vi (pI M B 8 (n32 11)) := by
          rw [hm1]
          funext c q
          rw [vi_pI, vi_pI]
          have : vi (pR m (B + 43) 11 (some (ac 0))) = vi M := f1.2.2.1
          rw [this]
        have LT : ∀ {q : Nat}, q ≠ B + 43 → LoomT M q → LoomT m1 q := fun hq ht => by
          unfold LoomT at ht ⊢
          rw [tg1, vr1 _ hq]; exact ht
        have ga : LoomAt m1 L (pK (aPn A)) (aLm A) := ⟨LT (by omega) h.V.L.T, by
          have := h.V.L.V
          have ev : ∀ c, L ≤ c → c ≤ L + 4 → vi m1 c = vi M c := fun c c1 c2 => by rw [vi1]; funext q; rw [vi_ne (by omega)]
          unfold LoomV at this ⊢
          rw [ev _ (by omega) (by omega), ev _ (by omega) (by omega), ev _ (by omega) (by omega), ev _ (by omega) (by omega), ev _ (by omega) (by omega)]
          exact this, h.V.L.O⟩
        have a0 := h.T.ai (show 0 < 12 by decide)
        obtain ⟨M2, e2, F2, g2⟩ := q_copyFrom (LT (by omega) (h.T.Ta 0 (by decide))) ga (by omega)
        have tM2 : tg M2 = tg M := by rw [F2.tg]; exact tg1
        have rM2 : ∀ b, b ≠ B + 43 → vr M2 b = vr M b := fun b hb => by rw [F2.vr]; exact vr1 b hb
        have S2 : ScrT M2 B := (h.S.turn f1).fr (M' := m1) (by rw [hm1]; exact (Fr.refl (fun c => c = B) _).pI 8 _ rfl) |>.fr F2
        have v8 : vi m1 B 8 = n32 11 := by rw [vi1, vi_self]
        have w8 : vi M2 B 8 = n32 11 := by rw [F2.vi (by omega)]; exact v8
        have tac : (tg M (ac 0)).1 = 4 := by rw [(h.T.Ta 0 (by decide)).t]
        simp (disch := omega) only [hR_d, hT_d, hI_t, hI_f, hVI_s, hVL_s, hVR_s, hVT_s, hVV_s, hO_s, hB_0, hB_1, hB_2, hB_r, hU_0, hU_1, hU_2, hU_r, hX_r, hL_0, hL_1, hL_2, hL_r, hC_s, h_k0, h_k1, h_k2, h_k3, h_k4, h_k5, h_k6, h_k7, h_k8, h_k9, h_k10, h_k11, h_k12, h_k14, h_k16, h_k18, h_k20, h_k23, h_k24, h_k25, h_k32, h_k44, h_k48, h_k50, h_k54, h_k57, h_k58, h_k59, h_k60, h_k63, h_k97, h_k100, h_k122, h_k177, h_k255, h_k400, h_k450, h_k625, h_k649, h_k708, h_k800, h_k900, h_k2500, h_k22500, h_k45000, h_kn1, h_kn2, h_kJ, h_kU, h_eI, h_eL, h_eR, h_eT, h_b1, h_eZ, h_not, h_b2, h_b0, h_b0L, h_gI, h_gL, h_gN, h_gR, h_aI, h_aL, h_aR, h_aLen, h_tern, h_and, h_or, h_vN, h_vI, h_vJ, h_vA, h_cFv, h_cFs, h_toI, h_toL, h_toV, h_nO, h_nA, g_skip, g_brk, g_cnt, g_retV, g_seq, g_if, g_setI, g_setR, g_setL, g_inc, g_putI, g_putZ, g_putL, g_putR, g_upI, g_AI, g_AL, g_AR, g_UA, g_exp, g_retI, g_retL, g_retZ, g_scope, g_unBrk, g_sup, h_fn, argE_n, argE_i, argE_r, argE_l, argE_a, sto_0, sto_s, sto_n0, sto_ns, isL_i, isL_r, isL_n, isL_a, isL_l, isL_0, rcv_r, rcv_a, List.getElem?_cons_zero, List.getElem?_cons_succ, List.getElem?_nil, List.set_cons_zero, List.set_cons_succ, List.take_succ_cons, List.take_zero, List.take_nil, List.length_cons, List.length_nil, List.nil_append, List.cons_append, Nat.reduceAdd, Nat.reduceSub, Nat.reduceLT, Nat.reduceEqDiff, Nat.reduceLeDiff, Nat.zero_add, Nat.lt_irrefl, Nat.succ_sub_one, and_true, true_and, and_false, false_and, not_false_eq_true, not_true_eq_false, Bool.false_eq_true, Bool.not_true, Bool.not_false, Bool.not_eq_true', Bool.true_eq_false, decide_true, decide_false, decide_eq_true_eq, decide_eq_false_iff_not, Option.some.injEq, and_self, Nat.add_one_sub_one, Nat.lt_add_one, Nat.zero_lt_succ, Value.int.injEq, Value.ref.injEq, Value.long.injEq, exists_eq_left', exists_eq_left, Sum.inl.injEq, Sum.inr.injEq, i2z_b2i, n32_add, n32_mul, n32_inc, n_iEq, n_iNe, n_iLt, n_iLe, n_iGt, n_iGe, n_zEq, n_zLt, n_zLe, n_zGt, n_zGe, n_inb, n32_clamp, f.2.1, e0, h.T.t, h.T.r7, h.T.t43, (h.T.Ta 0 (by decide)).t, tg_pR, vr_ne, ← hm1, tg1, vr1, v8, vr43, h.T.r4, h_of e2, tM2, rM2, w8, tg_pI, tg_pL, tg_pR, vr_pI, vr_pL, vl_pI, vl_pR, vi_pL, vi_pR, mN_pI, mN_pL, mN_pR, mU_pI, mU_pL, mU_pR, h.T.r12, h.S.t54, h_of (q_forget (S2.fr ((Fr.refl (fun a => a = B) M2).pI 8 (n32 (11 + 1)) rfl)))]
        exact fin m1 M2 _ _ (ac 0) (Or.inr ⟨_, vi1⟩) a0 F2
    · have hlt : (aAc A).length < 12 := by omega
      have a0 := h.T.ai hlt
      obtain ⟨M2, e2, F2, g2⟩ := q_copyFrom (h.T.Ta _ hlt) h.V.L (by omega)
      have S2 := h.S.fr F2
      have T2 := h.T.fr F2
      have w8 : vi M2 B 8 = n32 (aAc A).length := by rw [F2.vi (by omega)]; exact h.V.nac
      simp (disch := omega) only [hR_d, hT_d, hI_t, hI_f, hVI_s, hVL_s, hVR_s, hVT_s, hVV_s, hO_s, hB_0, hB_1, hB_2, hB_r, hU_0, hU_1, hU_2, hU_r, hX_r, hL_0, hL_1, hL_2, hL_r, hC_s, h_k0, h_k1, h_k2, h_k3, h_k4, h_k5, h_k6, h_k7, h_k8, h_k9, h_k10, h_k11, h_k12, h_k14, h_k16, h_k18, h_k20, h_k23, h_k24, h_k25, h_k32, h_k44, h_k48, h_k50, h_k54, h_k57, h_k58, h_k59, h_k60, h_k63, h_k97, h_k100, h_k122, h_k177, h_k255, h_k400, h_k450, h_k625, h_k649, h_k708, h_k800, h_k900, h_k2500, h_k22500, h_k45000, h_kn1, h_kn2, h_kJ, h_kU, h_eI, h_eL, h_eR, h_eT, h_b1, h_eZ, h_not, h_b2, h_b0, h_b0L, h_gI, h_gL, h_gN, h_gR, h_aI, h_aL, h_aR, h_aLen, h_tern, h_and, h_or, h_vN, h_vI, h_vJ, h_vA, h_cFv, h_cFs, h_toI, h_toL, h_toV, h_nO, h_nA, g_skip, g_brk, g_cnt, g_retV, g_seq, g_if, g_setI, g_setR, g_setL, g_inc, g_putI, g_putZ, g_putL, g_putR, g_upI, g_AI, g_AL, g_AR, g_UA, g_exp, g_retI, g_retL, g_retZ, g_scope, g_unBrk, g_sup, h_fn, argE_n, argE_i, argE_r, argE_l, argE_a, sto_0, sto_s, sto_n0, sto_ns, isL_i, isL_r, isL_n, isL_a, isL_l, isL_0, rcv_r, rcv_a, List.getElem?_cons_zero, List.getElem?_cons_succ, List.getElem?_nil, List.set_cons_zero, List.set_cons_succ, List.take_succ_cons, List.take_zero, List.take_nil, List.length_cons, List.length_nil, List.nil_append, List.cons_append, Nat.reduceAdd, Nat.reduceSub, Nat.reduceLT, Nat.reduceEqDiff, Nat.reduceLeDiff, Nat.zero_add, Nat.lt_irrefl, Nat.succ_sub_one, and_true, true_and, and_false, false_and, not_false_eq_true, not_true_eq_false, Bool.false_eq_true, Bool.not_true, Bool.not_false, Bool.not_eq_true', Bool.true_eq_false, decide_true, decide_false, decide_eq_true_eq, decide_eq_false_iff_not, Option.some.injEq, and_self, Nat.add_one_sub_one, Nat.lt_add_one, Nat.zero_lt_succ, Value.int.injEq, Value.ref.injEq, Value.long.injEq, exists_eq_left', exists_eq_left, Sum.inl.injEq, Sum.inr.injEq, i2z_b2i, n32_add, n32_mul, n32_inc, n_iEq, n_iNe, n_iLt, n_iLe, n_iGt, n_iGe, n_zEq, n_zLt, n_zLe, n_zGt, n_zGe, n_inb, n32_clamp, h.T.t, h.V.nac, e12, h.T.r7, h.T.t43, h.T.ra _ hlt, (h.T.Ta _ hlt).t, h.T.r4, h_of e2, T2.t, w8, tg_pI, tg_pL, tg_pR, vr_pI, vr_pL, vl_pI, vl_pR, vi_pL, vi_pR, mN_pI, mN_pL, mN_pR, mU_pI, mU_pL, mU_pR, T2.r12, S2.t54, h_of (q_forget (S2.fr ((Fr.refl (fun a => a = B) M2).pI 8 (n32 ((aAc A).length + 1)) rfl)))]
      exact ⟨by omega, fin M M2 _ _ _ (Or.inl rfl) a0 F2⟩
  obtain ⟨v, m, h1, rfl, h2⟩ := h_ex key
  exact ⟨m, h1, h2⟩
/-- rows toward the best meeting, where there is one without ripping -/
theorem q_toward (h : Cls M B P P2 L L2 ac A) {lo : Lo} {k : Nat} (hlo : aLm A = lWk lo k) (LO : LoOK (pK (aPn A)) lo) {a b : Nat} {t : List Nat} (hP : PB (aPn A) lo a b t) (z : vi M (B + 54) 0 = n32 1) (F : BF4 M B 0 0 a b) (sq : ∀ q, q < a + b → vi M (B + 55) q = n32 (t.getD q 0)) {m : Nat} (hm : m < 1000) : ∃ M', f_X8_weaveTowardBest [.ref B, .int (n32 m)] M = some (some (.int (n32 (min m a + min m b))), M') ∧ Fr (fun c => L ≤ c ∧ c ≤ L + 4) M M' ∧ LoomAt M' L (pK (aPn A)) (lWk (lAdds (aPn A) (lAdds (aPn A) lo 0 (t.take (min m a))) 1 (t.reverse.take (min m b))) k) := by
  have hpl := h.T.pl
  have hK := h.V.P.O.kinds
  have O := h.V.P.O
  have ab := mtB_le hP.1.2.2.1
  obtain ⟨w1, w2, w3, w4⟩ := F
  have hg : LoomAt M L (pK (aPn A)) (lWk (lAdds (aPn A) (lAdds (aPn A) lo 0 []) 1 []) k) := by
    have := h.V.L
    rw [hlo] at this
    exact this
  have W0 : WK (aPn A) lo a b t [] t [] := ⟨by simp, Nat.zero_le _, Nat.zero_le _, LO, hP⟩
  have key : hF f_X8_weaveTowardBest [.ref B, .int (n32 m)] M (fun v M' => v = some (Value.int (n32 (min m a + min m b))) ∧ Fr (fun c => L ≤ c ∧ c ≤ L + 4) M M' ∧ LoomAt M' L (pK (aPn A)) (lWk (lAdds (aPn A) (lAdds (aPn A) lo 0 (t.take (min m a))) 1 (t.reverse.take (min m b))) k)) () := by
    delta f_X8_weaveTowardBest b_X8_weaveTowardBest
    simp (disch := omega) only [hR_d, hT_d, hI_t, hI_f, hVI_s, hVL_s, hVR_s, hVT_s, hVV_s, hO_s, hB_0, hB_1, hB_2, hB_r, hU_0, hU_1, hU_2, hU_r, hX_r, hL_0, hL_1, hL_2, hL_r, hC_s, h_k0, h_k1, h_k2, h_k3, h_k4, h_k5, h_k6, h_k7, h_k8, h_k9, h_k10, h_k11, h_k12, h_k14, h_k16, h_k18, h_k20, h_k23, h_k24, h_k25, h_k32, h_k44, h_k48, h_k50, h_k54, h_k57, h_k58, h_k59, h_k60, h_k63, h_k97, h_k100, h_k122, h_k177, h_k255, h_k400, h_k450, h_k625, h_k649, h_k708, h_k800, h_k900, h_k2500, h_k22500, h_k45000, h_kn1, h_kn2, h_kJ, h_kU, h_eI, h_eL, h_eR, h_eT, h_b1, h_eZ, h_not, h_b2, h_b0, h_b0L, h_gI, h_gL, h_gN, h_gR, h_aI, h_aL, h_aR, h_aLen, h_tern, h_and, h_or, h_vN, h_vI, h_vJ, h_vA, h_cFv, h_cFs, h_toI, h_toL, h_toV, h_nO, h_nA, g_skip, g_brk, g_cnt, g_retV, g_seq, g_if, g_setI, g_setR, g_setL, g_inc, g_putI, g_putZ, g_putL, g_putR, g_upI, g_AI, g_AL, g_AR, g_UA, g_exp, g_retI, g_retL, g_retZ, g_scope, g_unBrk, g_sup, h_fn, argE_n, argE_i, argE_r, argE_l, argE_a, sto_0, sto_s, sto_n0, sto_ns, isL_i, isL_r, isL_n, isL_a, isL_l, isL_0, rcv_r, rcv_a, List.getElem?_cons_zero, List.getElem?_cons_succ, List.getElem?_nil, List.set_cons_zero, List.set_cons_succ, List.take_succ_cons, List.take_zero, List.take_nil, List.length_cons, List.length_nil, List.nil_append, List.cons_append, Nat.reduceAdd, Nat.reduceSub, Nat.reduceLT, Nat.reduceEqDiff, Nat.reduceLeDiff, Nat.zero_add, Nat.lt_irrefl, Nat.succ_sub_one, and_true, true_and, and_false, false_and, not_false_eq_true, not_true_eq_false, Bool.false_eq_true, Bool.not_true, Bool.not_false, Bool.not_eq_true', Bool.true_eq_false, decide_true, decide_false, decide_eq_true_eq, decide_eq_false_iff_not, Option.some.injEq, and_self, Nat.add_one_sub_one, Nat.lt_add_one, Nat.zero_lt_succ, Value.int.injEq, Value.ref.injEq, Value.long.injEq, exists_eq_left', exists_eq_left, Sum.inl.injEq, Sum.inr.injEq, i2z_b2i, n32_add, n32_mul, n32_inc, n_iEq, n_iNe, n_iLt, n_iLe, n_iGt, n_iGe, n_zEq, n_zLt, n_zLe, n_zGt, n_zGe, n_inb, n32_clamp, h.T.t, h.T.r12, h.S.t54, z, i2z_1, w1, w2, w3, w4, mMin_n]
    refine h_up (fun i e m' => e = [.ref B, .int (n32 m), .int (n32 (a + b)), .int (n32 (min m a)), .int (n32 i)] ∧ Fr (fun c => L ≤ c ∧ c ≤ L + 4) M m' ∧ ∃ l u, l.length = i ∧ WK (aPn A) lo a b t l u [] ∧ LoomAt m' L (pK (aPn A)) (lWk (lAdds (aPn A) (lAdds (aPn A) lo 0 l) 1 []) k)) (min m a) ⟨rfl, Fr.refl _ _, [], t, rfl, W0, hg⟩ ?_ ?_
    · rintro i e m' hi ⟨rfl, f, l, u, hl, W, g⟩
      have hP' := h.V.P.fr f (fun c z1 z2 z3 => by omega)
      have T' := h.T.fr f
      have S' := h.S.fr f
      have ul := W.2.2.2.2.2.1
      obtain ⟨x, u', rfl⟩ : ∃ x u', u = x :: u' := by
        cases u with
        | nil => simp at ul; omega
        | cons x u' => exact ⟨x, u', rfl⟩
      obtain ⟨g1, g2, g3, g4⟩ := W.left O (by omega)
      have sx : vi m' (B + 55) i = n32 x := by
        rw [f.vi (by omega), sq i (by omega), W.1, ← hl]
        simp only [List.reverse_nil, List.append_nil]
        rw [gd_mid]
      obtain ⟨M1, e1, f1, l1⟩ := q_addRow hP' g (by omega) (s := 0) (r := x) (by decide) g2.1 g1 (okx_tk O g2)
      rw [lWk_add, g3] at l1
      simp (disch := omega) only [hR_d, hT_d, hI_t, hI_f, hVI_s, hVL_s, hVR_s, hVT_s, hVV_s, hO_s, hB_0, hB_1, hB_2, hB_r, hU_0, hU_1, hU_2, hU_r, hX_r, hL_0, hL_1, hL_2, hL_r, hC_s, h_k0, h_k1, h_k2, h_k3, h_k4, h_k5, h_k6, h_k7, h_k8, h_k9, h_k10, h_k11, h_k12, h_k14, h_k16, h_k18, h_k20, h_k23, h_k24, h_k25, h_k32, h_k44, h_k48, h_k50, h_k54, h_k57, h_k58, h_k59, h_k60, h_k63, h_k97, h_k100, h_k122, h_k177, h_k255, h_k400, h_k450, h_k625, h_k649, h_k708, h_k800, h_k900, h_k2500, h_k22500, h_k45000, h_kn1, h_kn2, h_kJ, h_kU, h_eI, h_eL, h_eR, h_eT, h_b1, h_eZ, h_not, h_b2, h_b0, h_b0L, h_gI, h_gL, h_gN, h_gR, h_aI, h_aL, h_aR, h_aLen, h_tern, h_and, h_or, h_vN, h_vI, h_vJ, h_vA, h_cFv, h_cFs, h_toI, h_toL, h_toV, h_nO, h_nA, g_skip, g_brk, g_cnt, g_retV, g_seq, g_if, g_setI, g_setR, g_setL, g_inc, g_putI, g_putZ, g_putL, g_putR, g_upI, g_AI, g_AL, g_AR, g_UA, g_exp, g_retI, g_retL, g_retZ, g_scope, g_unBrk, g_sup, h_fn, argE_n, argE_i, argE_r, argE_l, argE_a, sto_0, sto_s, sto_n0, sto_ns, isL_i, isL_r, isL_n, isL_a, isL_l, isL_0, rcv_r, rcv_a, List.getElem?_cons_zero, List.getElem?_cons_succ, List.getElem?_nil, List.set_cons_zero, List.set_cons_succ, List.take_succ_cons, List.take_zero, List.take_nil, List.length_cons, List.length_nil, List.nil_append, List.cons_append, Nat.reduceAdd, Nat.reduceSub, Nat.reduceLT, Nat.reduceEqDiff, Nat.reduceLeDiff, Nat.zero_add, Nat.lt_irrefl, Nat.succ_sub_one, and_true, true_and, and_false, false_and, not_false_eq_true, not_true_eq_false, Bool.false_eq_true, Bool.not_true, Bool.not_false, Bool.not_eq_true', Bool.true_eq_false, decide_true, decide_false, decide_eq_true_eq, decide_eq_false_iff_not, Option.some.injEq, and_self, Nat.add_one_sub_one, Nat.lt_add_one, Nat.zero_lt_succ, Value.int.injEq, Value.ref.injEq, Value.long.injEq, exists_eq_left', exists_eq_left, Sum.inl.injEq, Sum.inr.injEq, i2z_b2i, n32_add, n32_mul, n32_inc, n_iEq, n_iNe, n_iLt, n_iLe, n_iGt, n_iGe, n_zEq, n_zLt, n_zLe, n_zGt, n_zGe, n_inb, n32_clamp, hi, T'.t, T'.r4, T'.r3, T'.r12, S'.t54, S'.b5, S'.t55, sx, g.T.t, h_of e1]
      exact ⟨by omega, f.trans f1, l ++ [x], u', by simp [hl], g4, l1⟩
    · rintro e m1 ⟨rfl, f, l, u, hl, W, g⟩
      have T' := h.T.fr f
      have S' := h.S.fr f
      have w4' : vi m1 (B + 54) 4 = n32 b := by rw [f.vi (by omega)]; exact w4
      simp (disch := omega) only [hR_d, hT_d, hI_t, hI_f, hVI_s, hVL_s, hVR_s, hVT_s, hVV_s, hO_s, hB_0, hB_1, hB_2, hB_r, hU_0, hU_1, hU_2, hU_r, hX_r, hL_0, hL_1, hL_2, hL_r, hC_s, h_k0, h_k1, h_k2, h_k3, h_k4, h_k5, h_k6, h_k7, h_k8, h_k9, h_k10, h_k11, h_k12, h_k14, h_k16, h_k18, h_k20, h_k23, h_k24, h_k25, h_k32, h_k44, h_k48, h_k50, h_k54, h_k57, h_k58, h_k59, h_k60, h_k63, h_k97, h_k100, h_k122, h_k177, h_k255, h_k400, h_k450, h_k625, h_k649, h_k708, h_k800, h_k900, h_k2500, h_k22500, h_k45000, h_kn1, h_kn2, h_kJ, h_kU, h_eI, h_eL, h_eR, h_eT, h_b1, h_eZ, h_not, h_b2, h_b0, h_b0L, h_gI, h_gL, h_gN, h_gR, h_aI, h_aL, h_aR, h_aLen, h_tern, h_and, h_or, h_vN, h_vI, h_vJ, h_vA, h_cFv, h_cFs, h_toI, h_toL, h_toV, h_nO, h_nA, g_skip, g_brk, g_cnt, g_retV, g_seq, g_if, g_setI, g_setR, g_setL, g_inc, g_putI, g_putZ, g_putL, g_putR, g_upI, g_AI, g_AL, g_AR, g_UA, g_exp, g_retI, g_retL, g_retZ, g_scope, g_unBrk, g_sup, h_fn, argE_n, argE_i, argE_r, argE_l, argE_a, sto_0, sto_s, sto_n0, sto_ns, isL_i, isL_r, isL_n, isL_a, isL_l, isL_0, rcv_r, rcv_a, List.getElem?_cons_zero, List.getElem?_cons_succ, List.getElem?_nil, List.set_cons_zero, List.set_cons_succ, List.take_succ_cons, List.take_zero, List.take_nil, List.length_cons, List.length_nil, List.nil_append, List.cons_append, Nat.reduceAdd, Nat.reduceSub, Nat.reduceLT, Nat.reduceEqDiff, Nat.reduceLeDiff, Nat.zero_add, Nat.lt_irrefl, Nat.succ_sub_one, and_true, true_and, and_false, false_and, not_false_eq_true, not_true_eq_false, Bool.false_eq_true, Bool.not_true, Bool.not_false, Bool.not_eq_true', Bool.true_eq_false, decide_true, decide_false, decide_eq_true_eq, decide_eq_false_iff_not, Option.some.injEq, and_self, Nat.add_one_sub_one, Nat.lt_add_one, Nat.zero_lt_succ, Value.int.injEq, Value.ref.injEq, Value.long.injEq, exists_eq_left', exists_eq_left, Sum.inl.injEq, Sum.inr.injEq, i2z_b2i, n32_add, n32_mul, n32_inc, n_iEq, n_iNe, n_iLt, n_iLe, n_iGt, n_iGe, n_zEq, n_zLt, n_zLe, n_zGt, n_zGe, n_inb, n32_clamp, T'.t, T'.r12, S'.t54, w4', mMin_n]
      refine h_up (fun i e m' => e = [.ref B, .int (n32 m), .int (n32 (a + b)), .int (n32 (min m a)), .int (n32 (min m b)), .int (n32 i)] ∧ Fr (fun c => L ≤ c ∧ c ≤ L + 4) M m' ∧ ∃ u r, r.length = i ∧ WK (aPn A) lo a b t l u r ∧ LoomAt m' L (pK (aPn A)) (lWk (lAdds (aPn A) (lAdds (aPn A) lo 0 l) 1 r) k)) (min m b) ⟨rfl, f, u, [], rfl, W, g⟩ ?_ ?_
      · rintro i e m' hi ⟨rfl, f, u, r, hr, W, g⟩
        have hP' := h.V.P.fr f (fun c z1 z2 z3 => by omega)
        have T' := h.T.fr f
        have S' := h.S.fr f
        have ul := W.2.2.2.2.2.1
        obtain ⟨u', x, rfl⟩ : ∃ u' x, u = u' ++ [x] := by
          rcases List.eq_nil_or_concat u with rfl | ⟨u', x, rfl⟩
          · simp at ul; omega
          · exact ⟨u', x, List.concat_eq_append⟩
        obtain ⟨g1, g2, g3, g4⟩ := W.right O (by omega)
        have tl := hP.2.1
        have ix : a + b - 1 - i = (l ++ u').length := by
          have := congrArg List.length W.1
          simp at this ⊢
          omega
        have sx : vi m' (B + 55) (a + b - 1 - i) = n32 x := by
          rw [f.vi (by omega), sq _ (by omega), ix]
          have : t = (l ++ u') ++ x :: r.reverse := by rw [W.1]; simp
          rw [this, gd_mid]
        obtain ⟨M1, e1, f1, l1⟩ := q_addRow hP' g (by omega) (s := 1) (r := x) (by decide) g2.1 g1 (okx_tk O g2)
        rw [lWk_add, g3] at l1
        simp (disch := omega) only [hR_d, hT_d, hI_t, hI_f, hVI_s, hVL_s, hVR_s, hVT_s, hVV_s, hO_s, hB_0, hB_1, hB_2, hB_r, hU_0, hU_1, hU_2, hU_r, hX_r, hL_0, hL_1, hL_2, hL_r, hC_s, h_k0, h_k1, h_k2, h_k3, h_k4, h_k5, h_k6, h_k7, h_k8, h_k9, h_k10, h_k11, h_k12, h_k14, h_k16, h_k18, h_k20, h_k23, h_k24, h_k25, h_k32, h_k44, h_k48, h_k50, h_k54, h_k57, h_k58, h_k59, h_k60, h_k63, h_k97, h_k100, h_k122, h_k177, h_k255, h_k400, h_k450, h_k625, h_k649, h_k708, h_k800, h_k900, h_k2500, h_k22500, h_k45000, h_kn1, h_kn2, h_kJ, h_kU, h_eI, h_eL, h_eR, h_eT, h_b1, h_eZ, h_not, h_b2, h_b0, h_b0L, h_gI, h_gL, h_gN, h_gR, h_aI, h_aL, h_aR, h_aLen, h_tern, h_and, h_or, h_vN, h_vI, h_vJ, h_vA, h_cFv, h_cFs, h_toI, h_toL, h_toV, h_nO, h_nA, g_skip, g_brk, g_cnt, g_retV, g_seq, g_if, g_setI, g_setR, g_setL, g_inc, g_putI, g_putZ, g_putL, g_putR, g_upI, g_AI, g_AL, g_AR, g_UA, g_exp, g_retI, g_retL, g_retZ, g_scope, g_unBrk, g_sup, h_fn, argE_n, argE_i, argE_r, argE_l, argE_a, sto_0, sto_s, sto_n0, sto_ns, isL_i, isL_r, isL_n, isL_a, isL_l, isL_0, rcv_r, rcv_a, List.getElem?_cons_zero, List.getElem?_cons_succ, List.getElem?_nil, List.set_cons_zero, List.set_cons_succ, List.take_succ_cons, List.take_zero, List.take_nil, List.length_cons, List.length_nil, List.nil_append, List.cons_append, Nat.reduceAdd, Nat.reduceSub, Nat.reduceLT, Nat.reduceEqDiff, Nat.reduceLeDiff, Nat.zero_add, Nat.lt_irrefl, Nat.succ_sub_one, and_true, true_and, and_false, false_and, not_false_eq_true, not_true_eq_false, Bool.false_eq_true, Bool.not_true, Bool.not_false, Bool.not_eq_true', Bool.true_eq_false, decide_true, decide_false, decide_eq_true_eq, decide_eq_false_iff_not, Option.some.injEq, and_self, Nat.add_one_sub_one, Nat.lt_add_one, Nat.zero_lt_succ, Value.int.injEq, Value.ref.injEq, Value.long.injEq, exists_eq_left', exists_eq_left, Sum.inl.injEq, Sum.inr.injEq, i2z_b2i, n32_add, n32_mul, n32_inc, n_iEq, n_iNe, n_iLt, n_iLe, n_iGt, n_iGe, n_zEq, n_zLt, n_zLe, n_zGt, n_zGe, n_inb, n32_clamp, hi, T'.t, T'.r4, T'.r3, T'.r12, S'.t54, S'.b5, S'.t55, n32_sub, sx, g.T.t, h_of e1]
        exact ⟨by omega, f.trans f1, u', r ++ [x], by simp [hr], g4, l1⟩
      · rintro e m' ⟨rfl, f, u, r, hr, W, g⟩
        simp (disch := omega) only [hR_d, hT_d, hI_t, hI_f, hVI_s, hVL_s, hVR_s, hVT_s, hVV_s, hO_s, hB_0, hB_1, hB_2, hB_r, hU_0, hU_1, hU_2, hU_r, hX_r, hL_0, hL_1, hL_2, hL_r, hC_s, h_k0, h_k1, h_k2, h_k3, h_k4, h_k5, h_k6, h_k7, h_k8, h_k9, h_k10, h_k11, h_k12, h_k14, h_k16, h_k18, h_k20, h_k23, h_k24, h_k25, h_k32, h_k44, h_k48, h_k50, h_k54, h_k57, h_k58, h_k59, h_k60, h_k63, h_k97, h_k100, h_k122, h_k177, h_k255, h_k400, h_k450, h_k625, h_k649, h_k708, h_k800, h_k900, h_k2500, h_k22500, h_k45000, h_kn1, h_kn2, h_kJ, h_kU, h_eI, h_eL, h_eR, h_eT, h_b1, h_eZ, h_not, h_b2, h_b0, h_b0L, h_gI, h_gL, h_gN, h_gR, h_aI, h_aL, h_aR, h_aLen, h_tern, h_and, h_or, h_vN, h_vI, h_vJ, h_vA, h_cFv, h_cFs, h_toI, h_toL, h_toV, h_nO, h_nA, g_skip, g_brk, g_cnt, g_retV, g_seq, g_if, g_setI, g_setR, g_setL, g_inc, g_putI, g_putZ, g_putL, g_putR, g_upI, g_AI, g_AL, g_AR, g_UA, g_exp, g_retI, g_retL, g_retZ, g_scope, g_unBrk, g_sup, h_fn, argE_n, argE_i, argE_r, argE_l, argE_a, sto_0, sto_s, sto_n0, sto_ns, isL_i, isL_r, isL_n, isL_a, isL_l, isL_0, rcv_r, rcv_a, List.getElem?_cons_zero, List.getElem?_cons_succ, List.getElem?_nil, List.set_cons_zero, List.set_cons_succ, List.take_succ_cons, List.take_zero, List.take_nil, List.length_cons, List.length_nil, List.nil_append, List.cons_append, Nat.reduceAdd, Nat.reduceSub, Nat.reduceLT, Nat.reduceEqDiff, Nat.reduceLeDiff, Nat.zero_add, Nat.lt_irrefl, Nat.succ_sub_one, and_true, true_and, and_false, false_and, not_false_eq_true, not_true_eq_false, Bool.false_eq_true, Bool.not_true, Bool.not_false, Bool.not_eq_true', Bool.true_eq_false, decide_true, decide_false, decide_eq_true_eq, decide_eq_false_iff_not, Option.some.injEq, and_self, Nat.add_one_sub_one, Nat.lt_add_one, Nat.zero_lt_succ, Value.int.injEq, Value.ref.injEq, Value.long.injEq, exists_eq_left', exists_eq_left, Sum.inl.injEq, Sum.inr.injEq, i2z_b2i, n32_add, n32_mul, n32_inc, n_iEq, n_iNe, n_iLt, n_iLe, n_iGt, n_iGe, n_zEq, n_zLt, n_zLe, n_zGt, n_zGe, n_inb, n32_clamp]
        obtain ⟨q1, q2⟩ := W.end
        rw [hl] at q1
        rw [hr] at q2
        rw [q1, q2] at g
        exact ⟨f, g⟩
  obtain ⟨v, M', h1, rfl, h2⟩ := h_ex key
  exact ⟨M', h1, h2⟩
theorem c_weeks (h : Cls M B P P2 L L2 ac A) (I : BK1 M B (aPn A) (aLm A)) (n : Int32) : ∃ M', f_X8_weeks [.ref B, .int n] M = some (some (.int (weeksA A n).2), M') ∧ CRB M B P P2 L L2 (weeksA A n).1 M' := by
  have hpl := h.T.pl
  have key : hF f_X8_weeks [.ref B, .int n] M (fun v M' => v = some (Value.int (weeksA A n).2) ∧ CRB M B P P2 L L2 (weeksA A n).1 M') () := by
    have no : ∀ t, t ≤ 6 → t ≠ 4 → CRB M B P P2 L L2 (setTr A t) (pI M B 6 (n32 t)) := fun t q1 q2 => (CR.ro h (t := t) q1 q2).crb I
    delta f_X8_weeks b_X8_weeks
    unfold weeksA
    cases td : aTd A
    · simp only [hR_d, hT_d, hI_t, hI_f, hVI_s, hVL_s, hVR_s, hVT_s, hVV_s, hO_s, hB_0, hB_1, hB_2, hB_r, hU_0, hU_1, hU_2, hU_r, hX_r, hL_0, hL_1, hL_2, hL_r, hC_s, h_k0, h_k1, h_k2, h_k3, h_k4, h_k5, h_k6, h_k7, h_k8, h_k9, h_k10, h_k11, h_k12, h_k14, h_k16, h_k18, h_k20, h_k23, h_k24, h_k25, h_k32, h_k44, h_k48, h_k50, h_k54, h_k57, h_k58, h_k59, h_k60, h_k63, h_k97, h_k100, h_k122, h_k177, h_k255, h_k400, h_k450, h_k625, h_k649, h_k708, h_k800, h_k900, h_k2500, h_k22500, h_k45000, h_kn1, h_kn2, h_kJ, h_kU, h_eI, h_eL, h_eR, h_eT, h_b1, h_eZ, h_not, h_b2, h_b0, h_b0L, h_gI, h_gL, h_gN, h_gR, h_aI, h_aL, h_aR, h_aLen, h_tern, h_and, h_or, h_vN, h_vI, h_vJ, h_vA, h_cFv, h_cFs, h_toI, h_toL, h_toV, h_nO, h_nA, g_skip, g_brk, g_cnt, g_retV, g_seq, g_if, g_setI, g_setR, g_setL, g_inc, g_putI, g_putZ, g_putL, g_putR, g_upI, g_AI, g_AL, g_AR, g_UA, g_exp, g_retI, g_retL, g_retZ, g_scope, g_unBrk, g_sup, h_fn, argE_n, argE_i, argE_r, argE_l, argE_a, sto_0, sto_s, sto_n0, sto_ns, isL_i, isL_r, isL_n, isL_a, isL_l, isL_0, rcv_r, rcv_a, List.getElem?_cons_zero, List.getElem?_cons_succ, List.getElem?_nil, List.set_cons_zero, List.set_cons_succ, List.take_succ_cons, List.take_zero, List.take_nil, List.length_cons, List.length_nil, List.nil_append, List.cons_append, Nat.reduceAdd, Nat.reduceSub, Nat.reduceLT, Nat.reduceEqDiff, Nat.reduceLeDiff, Nat.zero_add, Nat.lt_irrefl, Nat.succ_sub_one, and_true, true_and, and_false, false_and, not_false_eq_true, not_true_eq_false, Bool.false_eq_true, Bool.not_true, Bool.not_false, Bool.not_eq_true', Bool.true_eq_false, decide_true, decide_false, decide_eq_true_eq, decide_eq_false_iff_not, Option.some.injEq, and_self, Nat.add_one_sub_one, Nat.lt_add_one, Nat.zero_lt_succ, Value.int.injEq, Value.ref.injEq, Value.long.injEq, exists_eq_left', exists_eq_left, Sum.inl.injEq, Sum.inr.injEq, i2z_b2i, n32_add, n32_mul, n32_inc, h.T.t, h.V.told, td, h_of (q_refused h.T 1), if_false]
      exact no 1 (by decide) (by decide)
    · rw [if_pos rfl]
      by_cases l1 : iLt n (n32 1) = true
      · have e2 : ∀ (k : Nat), inO true 10 n = some k → k = 0 := by
          intro k e
          obtain ⟨-, hk, rfl⟩ := inO_some (by decide) e
          rw [n_iLt (by omega) (by decide), decide_eq_true_eq] at l1
          omega
        have ev : (match inO true 10 n with
          | none => (setTr A 2, (-1 : Int32))
          | some k => if k = 0 then (setTr A 2, -1) else (setTr (setLo (setAc A (keepL (aAc A) (aLm A))) (wkLo (aPn A) (aLm A) (k * pRate (aPn A)) k)) 0, n32 (wkN (aPn A) (aLm A) (k * pRate (aPn A))))) = (setTr A 2, -1) := by
          cases e : inO true 10 n with
          | none => rfl
          | some k => simp [e2 k e]
        rw [ev]
        simp only [hR_d, hT_d, hI_t, hI_f, hVI_s, hVL_s, hVR_s, hVT_s, hVV_s, hO_s, hB_0, hB_1, hB_2, hB_r, hU_0, hU_1, hU_2, hU_r, hX_r, hL_0, hL_1, hL_2, hL_r, hC_s, h_k0, h_k1, h_k2, h_k3, h_k4, h_k5, h_k6, h_k7, h_k8, h_k9, h_k10, h_k11, h_k12, h_k14, h_k16, h_k18, h_k20, h_k23, h_k24, h_k25, h_k32, h_k44, h_k48, h_k50, h_k54, h_k57, h_k58, h_k59, h_k60, h_k63, h_k97, h_k100, h_k122, h_k177, h_k255, h_k400, h_k450, h_k625, h_k649, h_k708, h_k800, h_k900, h_k2500, h_k22500, h_k45000, h_kn1, h_kn2, h_kJ, h_kU, h_eI, h_eL, h_eR, h_eT, h_b1, h_eZ, h_not, h_b2, h_b0, h_b0L, h_gI, h_gL, h_gN, h_gR, h_aI, h_aL, h_aR, h_aLen, h_tern, h_and, h_or, h_vN, h_vI, h_vJ, h_vA, h_cFv, h_cFs, h_toI, h_toL, h_toV, h_nO, h_nA, g_skip, g_brk, g_cnt, g_retV, g_seq, g_if, g_setI, g_setR, g_setL, g_inc, g_putI, g_putZ, g_putL, g_putR, g_upI, g_AI, g_AL, g_AR, g_UA, g_exp, g_retI, g_retL, g_retZ, g_scope, g_unBrk, g_sup, h_fn, argE_n, argE_i, argE_r, argE_l, argE_a, sto_0, sto_s, sto_n0, sto_ns, isL_i, isL_r, isL_n, isL_a, isL_l, isL_0, rcv_r, rcv_a, List.getElem?_cons_zero, List.getElem?_cons_succ, List.getElem?_nil, List.set_cons_zero, List.set_cons_succ, List.take_succ_cons, List.take_zero, List.take_nil, List.length_cons, List.length_nil, List.nil_append, List.cons_append, Nat.reduceAdd, Nat.reduceSub, Nat.reduceLT, Nat.reduceEqDiff, Nat.reduceLeDiff, Nat.zero_add, Nat.lt_irrefl, Nat.succ_sub_one, and_true, true_and, and_false, false_and, not_false_eq_true, not_true_eq_false, Bool.false_eq_true, Bool.not_true, Bool.not_false, Bool.not_eq_true', Bool.true_eq_false, decide_true, decide_false, decide_eq_true_eq, decide_eq_false_iff_not, Option.some.injEq, and_self, Nat.add_one_sub_one, Nat.lt_add_one, Nat.zero_lt_succ, Value.int.injEq, Value.ref.injEq, Value.long.injEq, exists_eq_left', exists_eq_left, Sum.inl.injEq, Sum.inr.injEq, i2z_b2i, n32_add, n32_mul, n32_inc, h.T.t, h.V.told, td, l1, h_of (q_refused h.T 2)]
        exact no 2 (by decide) (by decide)
      · have l1 : iLt n (n32 1) = false := by
          cases q : iLt n (n32 1)
          · rfl
          · exact absurd q l1
        have n1 : n32 1 ≤ n := by
          have := of_decide_eq_false l1
          exact Int32.not_lt.mp this
        have n0 : 0 ≤ n := Int32.le_trans (by decide) n1
        have en := n32_of n0
        have hc := clamp_lt n
        obtain ⟨k, hk⟩ : ∃ k, k = n.toNatClampNeg := ⟨_, rfl⟩
        rw [← hk] at en hc
        subst en
        have k1 : 1 ≤ k := (n32_le (by decide) hc).mp n1
        by_cases k9 : 9 < k
        · have e : inO true 10 (n32 k) = none := by
            unfold inO
            rw [if_neg]
            rintro ⟨-, -, q⟩
            rw [n32_lt hc (by decide)] at q
            omega
          rw [e]
          simp (disch := omega) only [hR_d, hT_d, hI_t, hI_f, hVI_s, hVL_s, hVR_s, hVT_s, hVV_s, hO_s, hB_0, hB_1, hB_2, hB_r, hU_0, hU_1, hU_2, hU_r, hX_r, hL_0, hL_1, hL_2, hL_r, hC_s, h_k0, h_k1, h_k2, h_k3, h_k4, h_k5, h_k6, h_k7, h_k8, h_k9, h_k10, h_k11, h_k12, h_k14, h_k16, h_k18, h_k20, h_k23, h_k24, h_k25, h_k32, h_k44, h_k48, h_k50, h_k54, h_k57, h_k58, h_k59, h_k60, h_k63, h_k97, h_k100, h_k122, h_k177, h_k255, h_k400, h_k450, h_k625, h_k649, h_k708, h_k800, h_k900, h_k2500, h_k22500, h_k45000, h_kn1, h_kn2, h_kJ, h_kU, h_eI, h_eL, h_eR, h_eT, h_b1, h_eZ, h_not, h_b2, h_b0, h_b0L, h_gI, h_gL, h_gN, h_gR, h_aI, h_aL, h_aR, h_aLen, h_tern, h_and, h_or, h_vN, h_vI, h_vJ, h_vA, h_cFv, h_cFs, h_toI, h_toL, h_toV, h_nO, h_nA, g_skip, g_brk, g_cnt, g_retV, g_seq, g_if, g_setI, g_setR, g_setL, g_inc, g_putI, g_putZ, g_putL, g_putR, g_upI, g_AI, g_AL, g_AR, g_UA, g_exp, g_retI, g_retL, g_retZ, g_scope, g_unBrk, g_sup, h_fn, argE_n, argE_i, argE_r, argE_l, argE_a, sto_0, sto_s, sto_n0, sto_ns, isL_i, isL_r, isL_n, isL_a, isL_l, isL_0, rcv_r, rcv_a, List.getElem?_cons_zero, List.getElem?_cons_succ, List.getElem?_nil, List.set_cons_zero, List.set_cons_succ, List.take_succ_cons, List.take_zero, List.take_nil, List.length_cons, List.length_nil, List.nil_append, List.cons_append, Nat.reduceAdd, Nat.reduceSub, Nat.reduceLT, Nat.reduceEqDiff, Nat.reduceLeDiff, Nat.zero_add, Nat.lt_irrefl, Nat.succ_sub_one, and_true, true_and, and_false, false_and, not_false_eq_true, not_true_eq_false, Bool.false_eq_true, Bool.not_true, Bool.not_false, Bool.not_eq_true', Bool.true_eq_false, decide_true, decide_false, decide_eq_true_eq, decide_eq_false_iff_not, Option.some.injEq, and_self, Nat.add_one_sub_one, Nat.lt_add_one, Nat.zero_lt_succ, Value.int.injEq, Value.ref.injEq, Value.long.injEq, exists_eq_left', exists_eq_left, Sum.inl.injEq, Sum.inr.injEq, i2z_b2i, n32_add, n32_mul, n32_inc, n_iEq, n_iNe, n_iLt, n_iLe, n_iGt, n_iGe, n_zEq, n_zLt, n_zLe, n_zGt, n_zGe, n_inb, n32_clamp, h.T.t, h.V.told, td, show ¬ k < 1 by omega, k9, h_of (q_refused h.T 2)]
          exact no 2 (by decide) (by decide)
        · have e : inO true 10 (n32 k) = some k := inO_n (by decide) (by omega)
          have ev : (match inO true 10 (n32 k) with
            | none => (setTr A 2, (-1 : Int32))
            | some k => if k = 0 then (setTr A 2, -1) else (setTr (setLo (setAc A (keepL (aAc A) (aLm A))) (wkLo (aPn A) (aLm A) (k * pRate (aPn A)) k)) 0, n32 (wkN (aPn A) (aLm A) (k * pRate (aPn A))))) = (setTr (setLo (setAc A (keepL (aAc A) (aLm A))) (wkLo (aPn A) (aLm A) (k * pRate (aPn A)) k)) 0, n32 (wkN (aPn A) (aLm A) (k * pRate (aPn A)))) := by
            rw [e]
            exact if_neg (by omega)
          rw [ev]
          have hr := h.V.P.O.rate
          obtain ⟨M1, e1, f1, kn1, V1, h1⟩ := q_findC h I
          obtain ⟨M2, ac2, e2, h2, o2, z2⟩ := q_keepAct h1
          obtain ⟨M2', e2', kb⟩ := q_keepKB h1
          have em : M2' = M2 := by rw [e2] at e2'; cases e2'; rfl
          subst em
          have hpl2 := h2.T.pl
          obtain ⟨M3, hM3⟩ : ∃ M3, M3 = pI M2' L 4 (n32 (lK (aLm A) + k)) := ⟨_, rfl⟩
          have f3 : Fr (fun c => L ≤ c ∧ c ≤ L + 4) M2' M3 := by rw [hM3]; exact (Fr.refl (fun c => L ≤ c ∧ c ≤ L + 4) M2').pI _ _ (by omega)
          have g3 : LoomAt M3 L (pK (aPn A)) (lWk (aLm A) k) := by
            have g2 : LoomAt M2' L (pK (aPn A)) (aLm A) := h2.V.L
            refine ⟨g2.T.fr f3, ⟨fun s hs => ?_, fun s i hs hi => ?_, fun s c hs hc => ?_, fun s c hs hc => ?_, ?_⟩, g2.O⟩
            · rw [hM3, vi_ne (by omega)]; exact g2.V.c s hs
            · rw [hM3, vi_ne (by omega)]; exact g2.V.r s i hs hi
            · rw [hM3, vi_ne (by omega)]; exact g2.V.st s c hs hc
            · rw [hM3, vi_ne (by omega)]; exact g2.V.w s c hs hc
            · rw [hM3, vi_self]; rfl
          have h3 := h2.loom f3 g3
          have kv : vi M2' L 4 = n32 (lK (aLm A)) := h2.V.L.V.k
          have rt : vi M3 P 2 = n32 (pRate (aPn A)) := h3.V.P.V.rate
          have oo : Out B (B + 140) M M3 := ((f1.out (fun a z => by unfold bS at z; omega)).trans o2).trans (Out.loom h2.T f3)
          have fin : ∀ M4 lo', Fr (fun c => L ≤ c ∧ c ≤ L + 4) M3 M4 → LoomAt M4 L (pK (aPn A)) lo' → (∀ x, f_X8_answer [.ref B, .int x] M4 = some (some (.int x), pI M4 B 6 (n32 0))) ∧ CRB M B P P2 L L2 (setTr (setLo (setAc A (keepL (aAc A) (aLm A))) lo') 0) (pI M4 B 6 (n32 0)) := by
            intro M4 lo' f4 g4
            have h4 := h3.loom f4 g4
            have c5 := h4.tr (t := 0) (by decide) (by decide)
            refine ⟨fun x => q_answer h4.T x, ⟨ac2, c5⟩, (oo.trans (Out.loom h3.T f4)).trans (((Fr.refl (fun a => a = B) M4).pI 6 _ rfl).out (fun a z => by omega)), Or.inl ?_⟩
            rw [vi_ne (by omega), f4.vi (by omega), f3.vi (by omega)]
            exact z2
          have kr : k * pRate (aPn A) < 1000 := by
            have := Nat.mul_le_mul (show k ≤ 9 by omega) hr
            omega
          have b0 : ∀ q, q ≠ 8 → vi M3 (B + 54) q = vi M1 (B + 54) q := fun q hq => by rw [f3.vi (by omega)]; exact kb.1 q hq
          have b5 : ∀ q, vi M3 (B + 55) q = vi M1 (B + 55) q := fun q => by rw [f3.vi (by omega), kb.2.1]
          have none0 : (vi M1 (B + 54) 0 = n32 0 ∨ (vi M1 (B + 54) 0 = n32 1 ∧ ∃ i j, vi M1 (B + 54) 1 = n32 i ∧ vi M1 (B + 54) 2 = n32 j ∧ 0 < i + j ∧ i + j < 1000)) → f_X8_weaveTowardBest [.ref B, .int (n32 (k * pRate (aPn A)))] M3 = some (some (.int (n32 0)), M3) := by
            intro hz
            apply h_eq
            delta f_X8_weaveTowardBest b_X8_weaveTowardBest
            rcases hz with hz | ⟨hz, i, j, y1, y2, y3, y4⟩
            · have v0 : vi M3 (B + 54) 0 = n32 0 := by rw [b0 0 (by decide)]; exact hz
              simp (disch := omega) only [hR_d, hT_d, hI_t, hI_f, hVI_s, hVL_s, hVR_s, hVT_s, hVV_s, hO_s, hB_0, hB_1, hB_2, hB_r, hU_0, hU_1, hU_2, hU_r, hX_r, hL_0, hL_1, hL_2, hL_r, hC_s, h_k0, h_k1, h_k2, h_k3, h_k4, h_k5, h_k6, h_k7, h_k8, h_k9, h_k10, h_k11, h_k12, h_k14, h_k16, h_k18, h_k20, h_k23, h_k24, h_k25, h_k32, h_k44, h_k48, h_k50, h_k54, h_k57, h_k58, h_k59, h_k60, h_k63, h_k97, h_k100, h_k122, h_k177, h_k255, h_k400, h_k450, h_k625, h_k649, h_k708, h_k800, h_k900, h_k2500, h_k22500, h_k45000, h_kn1, h_kn2, h_kJ, h_kU, h_eI, h_eL, h_eR, h_eT, h_b1, h_eZ, h_not, h_b2, h_b0, h_b0L, h_gI, h_gL, h_gN, h_gR, h_aI, h_aL, h_aR, h_aLen, h_tern, h_and, h_or, h_vN, h_vI, h_vJ, h_vA, h_cFv, h_cFs, h_toI, h_toL, h_toV, h_nO, h_nA, g_skip, g_brk, g_cnt, g_retV, g_seq, g_if, g_setI, g_setR, g_setL, g_inc, g_putI, g_putZ, g_putL, g_putR, g_upI, g_AI, g_AL, g_AR, g_UA, g_exp, g_retI, g_retL, g_retZ, g_scope, g_unBrk, g_sup, h_fn, argE_n, argE_i, argE_r, argE_l, argE_a, sto_0, sto_s, sto_n0, sto_ns, isL_i, isL_r, isL_n, isL_a, isL_l, isL_0, rcv_r, rcv_a, List.getElem?_cons_zero, List.getElem?_cons_succ, List.getElem?_nil, List.set_cons_zero, List.set_cons_succ, List.take_succ_cons, List.take_zero, List.take_nil, List.length_cons, List.length_nil, List.nil_append, List.cons_append, Nat.reduceAdd, Nat.reduceSub, Nat.reduceLT, Nat.reduceEqDiff, Nat.reduceLeDiff, Nat.zero_add, Nat.lt_irrefl, Nat.succ_sub_one, and_true, true_and, and_false, false_and, not_false_eq_true, not_true_eq_false, Bool.false_eq_true, Bool.not_true, Bool.not_false, Bool.not_eq_true', Bool.true_eq_false, decide_true, decide_false, decide_eq_true_eq, decide_eq_false_iff_not, Option.some.injEq, and_self, Nat.add_one_sub_one, Nat.lt_add_one, Nat.zero_lt_succ, Value.int.injEq, Value.ref.injEq, Value.long.injEq, exists_eq_left', exists_eq_left, Sum.inl.injEq, Sum.inr.injEq, i2z_b2i, n32_add, n32_mul, n32_inc, n_iEq, n_iNe, n_iLt, n_iLe, n_iGt, n_iGe, n_zEq, n_zLt, n_zLe, n_zGt, n_zGe, n_inb, n32_clamp, h3.T.t, h3.T.r12, h3.S.t54, v0, i2z_0]
            · have v0 : vi M3 (B + 54) 0 = n32 1 := by rw [b0 0 (by decide)]; exact hz
              have v1 : vi M3 (B + 54) 1 = n32 i := by rw [b0 1 (by decide)]; exact y1
              have v2 : vi M3 (B + 54) 2 = n32 j := by rw [b0 2 (by decide)]; exact y2
              simp (disch := omega) only [hR_d, hT_d, hI_t, hI_f, hVI_s, hVL_s, hVR_s, hVT_s, hVV_s, hO_s, hB_0, hB_1, hB_2, hB_r, hU_0, hU_1, hU_2, hU_r, hX_r, hL_0, hL_1, hL_2, hL_r, hC_s, h_k0, h_k1, h_k2, h_k3, h_k4, h_k5, h_k6, h_k7, h_k8, h_k9, h_k10, h_k11, h_k12, h_k14, h_k16, h_k18, h_k20, h_k23, h_k24, h_k25, h_k32, h_k44, h_k48, h_k50, h_k54, h_k57, h_k58, h_k59, h_k60, h_k63, h_k97, h_k100, h_k122, h_k177, h_k255, h_k400, h_k450, h_k625, h_k649, h_k708, h_k800, h_k900, h_k2500, h_k22500, h_k45000, h_kn1, h_kn2, h_kJ, h_kU, h_eI, h_eL, h_eR, h_eT, h_b1, h_eZ, h_not, h_b2, h_b0, h_b0L, h_gI, h_gL, h_gN, h_gR, h_aI, h_aL, h_aR, h_aLen, h_tern, h_and, h_or, h_vN, h_vI, h_vJ, h_vA, h_cFv, h_cFs, h_toI, h_toL, h_toV, h_nO, h_nA, g_skip, g_brk, g_cnt, g_retV, g_seq, g_if, g_setI, g_setR, g_setL, g_inc, g_putI, g_putZ, g_putL, g_putR, g_upI, g_AI, g_AL, g_AR, g_UA, g_exp, g_retI, g_retL, g_retZ, g_scope, g_unBrk, g_sup, h_fn, argE_n, argE_i, argE_r, argE_l, argE_a, sto_0, sto_s, sto_n0, sto_ns, isL_i, isL_r, isL_n, isL_a, isL_l, isL_0, rcv_r, rcv_a, List.getElem?_cons_zero, List.getElem?_cons_succ, List.getElem?_nil, List.set_cons_zero, List.set_cons_succ, List.take_succ_cons, List.take_zero, List.take_nil, List.length_cons, List.length_nil, List.nil_append, List.cons_append, Nat.reduceAdd, Nat.reduceSub, Nat.reduceLT, Nat.reduceEqDiff, Nat.reduceLeDiff, Nat.zero_add, Nat.lt_irrefl, Nat.succ_sub_one, and_true, true_and, and_false, false_and, not_false_eq_true, not_true_eq_false, Bool.false_eq_true, Bool.not_true, Bool.not_false, Bool.not_eq_true', Bool.true_eq_false, decide_true, decide_false, decide_eq_true_eq, decide_eq_false_iff_not, Option.some.injEq, and_self, Nat.add_one_sub_one, Nat.lt_add_one, Nat.zero_lt_succ, Value.int.injEq, Value.ref.injEq, Value.long.injEq, exists_eq_left', exists_eq_left, Sum.inl.injEq, Sum.inr.injEq, i2z_b2i, n32_add, n32_mul, n32_inc, n_iEq, n_iNe, n_iLt, n_iLe, n_iGt, n_iGe, n_zEq, n_zLt, n_zLe, n_zGt, n_zGe, n_inb, n32_clamp, h3.T.t, h3.T.r12, h3.S.t54, v0, i2z_1, v1, v2, y3]
          have l4 : ∀ x, hF f_X8_answer [.ref B, .int x] M3 = hF f_X8_answer [.ref B, .int x] M3 := fun _ => rfl
          rcases V1 with ⟨z, N⟩ | ⟨z, i, j, a, b, t, hB, ⟨w1, w2, w3, w4⟩, t1, t2, t3, t4⟩
          · have wv0 : wkV (aPn A) (aLm A) = none := by unfold wkV; rw [bstO_none N]
            have e4 := none0 (Or.inl z)
            have lv : wkLo (aPn A) (aLm A) (k * pRate (aPn A)) k = lWk (aLm A) k := by unfold wkLo; rw [wv0]
            have nv : wkN (aPn A) (aLm A) (k * pRate (aPn A)) = 0 := by unfold wkN; rw [wv0]
            rw [lv, nv]
            simp (disch := omega) only [hR_d, hT_d, hI_t, hI_f, hVI_s, hVL_s, hVR_s, hVT_s, hVV_s, hO_s, hB_0, hB_1, hB_2, hB_r, hU_0, hU_1, hU_2, hU_r, hX_r, hL_0, hL_1, hL_2, hL_r, hC_s, h_k0, h_k1, h_k2, h_k3, h_k4, h_k5, h_k6, h_k7, h_k8, h_k9, h_k10, h_k11, h_k12, h_k14, h_k16, h_k18, h_k20, h_k23, h_k24, h_k25, h_k32, h_k44, h_k48, h_k50, h_k54, h_k57, h_k58, h_k59, h_k60, h_k63, h_k97, h_k100, h_k122, h_k177, h_k255, h_k400, h_k450, h_k625, h_k649, h_k708, h_k800, h_k900, h_k2500, h_k22500, h_k45000, h_kn1, h_kn2, h_kJ, h_kU, h_eI, h_eL, h_eR, h_eT, h_b1, h_eZ, h_not, h_b2, h_b0, h_b0L, h_gI, h_gL, h_gN, h_gR, h_aI, h_aL, h_aR, h_aLen, h_tern, h_and, h_or, h_vN, h_vI, h_vJ, h_vA, h_cFv, h_cFs, h_toI, h_toL, h_toV, h_nO, h_nA, g_skip, g_brk, g_cnt, g_retV, g_seq, g_if, g_setI, g_setR, g_setL, g_inc, g_putI, g_putZ, g_putL, g_putR, g_upI, g_AI, g_AL, g_AR, g_UA, g_exp, g_retI, g_retL, g_retZ, g_scope, g_unBrk, g_sup, h_fn, argE_n, argE_i, argE_r, argE_l, argE_a, sto_0, sto_s, sto_n0, sto_ns, isL_i, isL_r, isL_n, isL_a, isL_l, isL_0, rcv_r, rcv_a, List.getElem?_cons_zero, List.getElem?_cons_succ, List.getElem?_nil, List.set_cons_zero, List.set_cons_succ, List.take_succ_cons, List.take_zero, List.take_nil, List.length_cons, List.length_nil, List.nil_append, List.cons_append, Nat.reduceAdd, Nat.reduceSub, Nat.reduceLT, Nat.reduceEqDiff, Nat.reduceLeDiff, Nat.zero_add, Nat.lt_irrefl, Nat.succ_sub_one, and_true, true_and, and_false, false_and, not_false_eq_true, not_true_eq_false, Bool.false_eq_true, Bool.not_true, Bool.not_false, Bool.not_eq_true', Bool.true_eq_false, decide_true, decide_false, decide_eq_true_eq, decide_eq_false_iff_not, Option.some.injEq, and_self, Nat.add_one_sub_one, Nat.lt_add_one, Nat.zero_lt_succ, Value.int.injEq, Value.ref.injEq, Value.long.injEq, exists_eq_left', exists_eq_left, Sum.inl.injEq, Sum.inr.injEq, i2z_b2i, n32_add, n32_mul, n32_inc, n_iEq, n_iNe, n_iLt, n_iLe, n_iGt, n_iGe, n_zEq, n_zLt, n_zLe, n_zGt, n_zGe, n_inb, n32_clamp, h.T.t, h.V.told, td, show ¬ k < 1 by omega, k9, h.T.r12, h.T.r3, h.T.r4, h.T.r11, h.S.t54, h_of e1, h1.T.t, h_of e2, h2.T.t, h2.T.r4, h2.V.L.T.t, kv, ← hM3, h3.T.t, h3.T.r3, h3.V.P.T.t, rt, h_of e4]
            obtain ⟨u1, u2⟩ := fin M3 _ (Fr.refl _ _) g3
            rw [h_of (u1 _)]
            exact ⟨rfl, u2⟩
          · have hb := bstO_some (x := (i, j, a, b, t)) ⟨hB, t1, t2⟩
            by_cases ij : i + j = 0
            · have i0 : i = 0 := by omega
              have j0 : j = 0 := by omega
              subst i0; subst j0
              have wv0 : wkV (aPn A) (aLm A) = some (a, b, t) := by unfold wkV; rw [hb]; simp
              obtain ⟨M4, e4, f4, g4⟩ := q_toward h3 (lo := aLm A) (k := k) rfl h.V.L.O (a := a) (b := b) (t := t) ⟨hB, t1, t2⟩ (by rw [b0 0 (by decide)]; exact z) ⟨by rw [b0 1 (by decide)]; exact w1, by rw [b0 2 (by decide)]; exact w2, by rw [b0 3 (by decide)]; exact w3, by rw [b0 4 (by decide)]; exact w4⟩ (fun q hq => by rw [b5]; exact t3 q hq) kr
              have lv : wkLo (aPn A) (aLm A) (k * pRate (aPn A)) k = lWk (lAdds (aPn A) (lAdds (aPn A) (aLm A) 0 (t.take (min (k * pRate (aPn A)) a))) 1 (t.reverse.take (min (k * pRate (aPn A)) b))) k := by unfold wkLo; rw [wv0]
              have nv : wkN (aPn A) (aLm A) (k * pRate (aPn A)) = min (k * pRate (aPn A)) a + min (k * pRate (aPn A)) b := by unfold wkN; rw [wv0]
              rw [lv, nv]
              have h4 := h3.loom f4 g4
              simp (disch := omega) only [hR_d, hT_d, hI_t, hI_f, hVI_s, hVL_s, hVR_s, hVT_s, hVV_s, hO_s, hB_0, hB_1, hB_2, hB_r, hU_0, hU_1, hU_2, hU_r, hX_r, hL_0, hL_1, hL_2, hL_r, hC_s, h_k0, h_k1, h_k2, h_k3, h_k4, h_k5, h_k6, h_k7, h_k8, h_k9, h_k10, h_k11, h_k12, h_k14, h_k16, h_k18, h_k20, h_k23, h_k24, h_k25, h_k32, h_k44, h_k48, h_k50, h_k54, h_k57, h_k58, h_k59, h_k60, h_k63, h_k97, h_k100, h_k122, h_k177, h_k255, h_k400, h_k450, h_k625, h_k649, h_k708, h_k800, h_k900, h_k2500, h_k22500, h_k45000, h_kn1, h_kn2, h_kJ, h_kU, h_eI, h_eL, h_eR, h_eT, h_b1, h_eZ, h_not, h_b2, h_b0, h_b0L, h_gI, h_gL, h_gN, h_gR, h_aI, h_aL, h_aR, h_aLen, h_tern, h_and, h_or, h_vN, h_vI, h_vJ, h_vA, h_cFv, h_cFs, h_toI, h_toL, h_toV, h_nO, h_nA, g_skip, g_brk, g_cnt, g_retV, g_seq, g_if, g_setI, g_setR, g_setL, g_inc, g_putI, g_putZ, g_putL, g_putR, g_upI, g_AI, g_AL, g_AR, g_UA, g_exp, g_retI, g_retL, g_retZ, g_scope, g_unBrk, g_sup, h_fn, argE_n, argE_i, argE_r, argE_l, argE_a, sto_0, sto_s, sto_n0, sto_ns, isL_i, isL_r, isL_n, isL_a, isL_l, isL_0, rcv_r, rcv_a, List.getElem?_cons_zero, List.getElem?_cons_succ, List.getElem?_nil, List.set_cons_zero, List.set_cons_succ, List.take_succ_cons, List.take_zero, List.take_nil, List.length_cons, List.length_nil, List.nil_append, List.cons_append, Nat.reduceAdd, Nat.reduceSub, Nat.reduceLT, Nat.reduceEqDiff, Nat.reduceLeDiff, Nat.zero_add, Nat.lt_irrefl, Nat.succ_sub_one, and_true, true_and, and_false, false_and, not_false_eq_true, not_true_eq_false, Bool.false_eq_true, Bool.not_true, Bool.not_false, Bool.not_eq_true', Bool.true_eq_false, decide_true, decide_false, decide_eq_true_eq, decide_eq_false_iff_not, Option.some.injEq, and_self, Nat.add_one_sub_one, Nat.lt_add_one, Nat.zero_lt_succ, Value.int.injEq, Value.ref.injEq, Value.long.injEq, exists_eq_left', exists_eq_left, Sum.inl.injEq, Sum.inr.injEq, i2z_b2i, n32_add, n32_mul, n32_inc, n_iEq, n_iNe, n_iLt, n_iLe, n_iGt, n_iGe, n_zEq, n_zLt, n_zLe, n_zGt, n_zGe, n_inb, n32_clamp, h.T.t, h.V.told, td, show ¬ k < 1 by omega, k9, h.T.r12, h.T.r3, h.T.r4, h.T.r11, h.S.t54, h_of e1, h1.T.t, h_of e2, h2.T.t, h2.T.r4, h2.V.L.T.t, kv, ← hM3, h3.T.t, h3.T.r3, h3.V.P.T.t, rt, h_of e4, h4.T.t]
              obtain ⟨u1, u2⟩ := fin M4 _ f4 g4
              rw [h_of (u1 _)]
              exact ⟨rfl, u2⟩
            · have wv0 : wkV (aPn A) (aLm A) = none := by unfold wkV; rw [hb]; simp; omega
              have c0 := h.V.L.O.c 0 (by decide)
              have c1 := h.V.L.O.c 1 (by decide)
              have := hB.1
              have := hB.2.1
              have e4 := none0 (Or.inr ⟨z, i, j, w1, w2, by omega, by omega⟩)
              have lv : wkLo (aPn A) (aLm A) (k * pRate (aPn A)) k = lWk (aLm A) k := by unfold wkLo; rw [wv0]
              have nv : wkN (aPn A) (aLm A) (k * pRate (aPn A)) = 0 := by unfold wkN; rw [wv0]
              rw [lv, nv]
              simp (disch := omega) only [hR_d, hT_d, hI_t, hI_f, hVI_s, hVL_s, hVR_s, hVT_s, hVV_s, hO_s, hB_0, hB_1, hB_2, hB_r, hU_0, hU_1, hU_2, hU_r, hX_r, hL_0, hL_1, hL_2, hL_r, hC_s, h_k0, h_k1, h_k2, h_k3, h_k4, h_k5, h_k6, h_k7, h_k8, h_k9, h_k10, h_k11, h_k12, h_k14, h_k16, h_k18, h_k20, h_k23, h_k24, h_k25, h_k32, h_k44, h_k48, h_k50, h_k54, h_k57, h_k58, h_k59, h_k60, h_k63, h_k97, h_k100, h_k122, h_k177, h_k255, h_k400, h_k450, h_k625, h_k649, h_k708, h_k800, h_k900, h_k2500, h_k22500, h_k45000, h_kn1, h_kn2, h_kJ, h_kU, h_eI, h_eL, h_eR, h_eT, h_b1, h_eZ, h_not, h_b2, h_b0, h_b0L, h_gI, h_gL, h_gN, h_gR, h_aI, h_aL, h_aR, h_aLen, h_tern, h_and, h_or, h_vN, h_vI, h_vJ, h_vA, h_cFv, h_cFs, h_toI, h_toL, h_toV, h_nO, h_nA, g_skip, g_brk, g_cnt, g_retV, g_seq, g_if, g_setI, g_setR, g_setL, g_inc, g_putI, g_putZ, g_putL, g_putR, g_upI, g_AI, g_AL, g_AR, g_UA, g_exp, g_retI, g_retL, g_retZ, g_scope, g_unBrk, g_sup, h_fn, argE_n, argE_i, argE_r, argE_l, argE_a, sto_0, sto_s, sto_n0, sto_ns, isL_i, isL_r, isL_n, isL_a, isL_l, isL_0, rcv_r, rcv_a, List.getElem?_cons_zero, List.getElem?_cons_succ, List.getElem?_nil, List.set_cons_zero, List.set_cons_succ, List.take_succ_cons, List.take_zero, List.take_nil, List.length_cons, List.length_nil, List.nil_append, List.cons_append, Nat.reduceAdd, Nat.reduceSub, Nat.reduceLT, Nat.reduceEqDiff, Nat.reduceLeDiff, Nat.zero_add, Nat.lt_irrefl, Nat.succ_sub_one, and_true, true_and, and_false, false_and, not_false_eq_true, not_true_eq_false, Bool.false_eq_true, Bool.not_true, Bool.not_false, Bool.not_eq_true', Bool.true_eq_false, decide_true, decide_false, decide_eq_true_eq, decide_eq_false_iff_not, Option.some.injEq, and_self, Nat.add_one_sub_one, Nat.lt_add_one, Nat.zero_lt_succ, Value.int.injEq, Value.ref.injEq, Value.long.injEq, exists_eq_left', exists_eq_left, Sum.inl.injEq, Sum.inr.injEq, i2z_b2i, n32_add, n32_mul, n32_inc, n_iEq, n_iNe, n_iLt, n_iLe, n_iGt, n_iGe, n_zEq, n_zLt, n_zLe, n_zGt, n_zGe, n_inb, n32_clamp, h.T.t, h.V.told, td, show ¬ k < 1 by omega, k9, h.T.r12, h.T.r3, h.T.r4, h.T.r11, h.S.t54, h_of e1, h1.T.t, h_of e2, h2.T.t, h2.T.r4, h2.V.L.T.t, kv, ← hM3, h3.T.t, h3.T.r3, h3.V.P.T.t, rt, h_of e4]
              obtain ⟨u1, u2⟩ := fin M3 _ (Fr.refl _ _) g3
              rw [h_of (u1 _)]
              exact ⟨rfl, u2⟩
  obtain ⟨v, m, h1, rfl, h2⟩ := h_ex key
  exact ⟨m, h1, h2⟩
end
