/-! THE REFERENCE: calls that change what stands -/
theorem LoW.move {M M' : qM} {a a' o o' K : Nat} {lo : Lo} (h : LoW M a o lo) (O : LoOK K lo) (e : ∀ q, q < 59 → vi M' a' (o' + q) = vi M a (o + q)) : LoW M' a' o' lo := by
  refine ⟨fun s hs => ?_, fun s i hs hi => ?_, fun s c hs hc => ?_, fun s c hs hc => ?_, ?_⟩
  · rw [e _ (by omega)]; exact h.c s hs
  · have := O.c s hs
    rw [e _ (by omega)]; exact h.r s i hs hi
  · rw [e _ (by omega)]; exact h.st s c hs hc
  · rw [e _ (by omega)]; exact h.w s c hs hc
  · rw [e _ (by omega)]; exact h.k
def MR (M : qM) (X C : Nat) (A' : Ab) (M' : qM) : Prop := Mdl M' X C A' ∧ Fr (fun a => X ≤ a ∧ a ≤ X + 12) M M'
section
variable {M : qM} {X C : Nat} {A : Ab} {p : Pl} {lo : Lo}
theorem Mdl.th (h : Mdl M X C A) (x : Int32) : Mdl (pI M X 0 x) X C A := by
  have f : Fr (fun a => a = X) M (pI M X 0 x) := (Fr.refl _ M).pI 0 _ rfl
  refine ⟨h.T, ?_, ?_, ?_, ?_, fun i hi => ?_, h.N, fun e => (h.Y e).th 0 x, ?_, h.nac12, ?_, h.nmk3, fun i lo hi => ⟨(h.ac i lo hi).1.fr f (by omega), (h.ac i lo hi).2⟩, fun i lo hi => ⟨(h.mk i lo hi).1.fr f (by omega), (h.mk i lo hi).2⟩⟩
  · rw [vi_nk (by decide)]; exact h.tr
  · rw [vi_nk (by decide)]; exact h.wh
  · rw [vi_nk (by decide)]; exact h.ft
  · rw [vi_nk (by decide)]; exact h.tl
  · rw [vi_ne (by omega)]; exact h.tp i hi
  · rw [vi_nk (by decide)]; exact h.nac
  · rw [vi_nk (by decide)]; exact h.nmk
theorem Mdl.trb (h : Mdl M X C A) {t : Nat} (h4 : t ≠ 4) : Mdl (pI (pI M X 1 (n32 t)) X 2 (-1)) X C (setTr A t) := by
  have f : Fr (fun a => a = X) M (pI (pI M X 1 (n32 t)) X 2 (-1)) := ((Fr.refl (fun a => a = X) M).pI 1 _ rfl).pI 2 _ rfl
  refine ⟨h.T, ?_, ?_, ?_, ?_, fun i hi => ?_, h.N, fun e => ((h.Y e).th 1 _).th 2 _, ?_, h.nac12, ?_, h.nmk3, fun i lo hi => ⟨(h.ac i lo hi).1.fr f (by omega), (h.ac i lo hi).2⟩, fun i lo hi => ⟨(h.mk i lo hi).1.fr f (by omega), (h.mk i lo hi).2⟩⟩
  · rw [vi_nk (by decide), vi_self]; rfl
  · rw [vi_self]
    show -1 = if t = 4 then n32 (aPc A) else -1
    rw [if_neg h4]
  · rw [vi_nk (by decide), vi_nk (by decide)]; exact h.ft
  · rw [vi_nk (by decide), vi_nk (by decide)]; exact h.tl
  · rw [vi_ne (by omega), vi_ne (by omega)]; exact h.tp i hi
  · rw [vi_nk (by decide), vi_nk (by decide)]; exact h.nac
  · rw [vi_nk (by decide), vi_nk (by decide)]; exact h.nmk
theorem frX {M M1 : qM} {X k : Nat} {x : Int32} (h : Fr (fun a => X ≤ a ∧ a ≤ X + 12) M M1) : Fr (fun a => X ≤ a ∧ a ≤ X + 12) M (pI M1 X k x) := h.pI k x ⟨by omega, by omega⟩
theorem MR.ro (h : Mdl M X C A) {t : Nat} (h4 : t ≠ 4) : MR M X C (setTr A t) (mdR M X t) := ⟨(h.th (n32 0)).trb h4, frX (frX (frX (Fr.refl _ M)))⟩
theorem MR.end (h : Mdl M X C A) {M0 : qM} (f : Fr (fun a => X ≤ a ∧ a ≤ X + 12) M0 M) {t : Nat} (h4 : t ≠ 4) : MR M0 X C (setTr A t) (pI (pI M X 1 (n32 t)) X 2 (-1)) := ⟨h.trb h4, frX (frX f)⟩
theorem m_denied (h : MdlT M X) (t : Int32) : f_X10_denied [.ref X, .int t] M = some (some (.int 0), pI (pI M X 1 t) X 2 (-1)) := by
  apply wF_eq
  unfold f_X10_denied b_X10_denied
  simp only [w_eK, w_eI, w_eL, w_eR, w_eT, w_b1, w_b2, w_b0, w_b0L, w_gI, w_gL, w_gN, w_gR, w_aI, w_aL, w_aR, w_aLen, w_tern, w_and, w_or, w_vN, vI, vJ, vA, vS, w_cFv, w_cFs, w_toI, w_toL, w_toV, w_nO, w_nA, eZ, cNot, s_skip, s_brk, s_cnt, s_retV, s_seq, s_if, s_set1, s_setL, s_inc, s_putI, s_putZ, s_putL, s_putR, s_upI, s_AI, s_AL, s_AR, s_UA, s_exp, s_ret, s_retZ, s_scope, s_unBrk, s_sw, s_sup, sSetI, sSetR, sRetI, sRetL, f_of, argE_n, argE_i, argE_r, argE_l, argE_a, sto_0, sto_s, sto_n0, sto_ns, isL_i, isL_r, isL_n, isL_a, isL_l, isL_0, rcv_r, rcv_a, List.getElem?_cons_zero, List.getElem?_cons_succ, List.getElem?_nil, List.set_cons_zero, List.set_cons_succ, List.take_succ_cons, List.take_zero, List.take_nil, List.length_cons, List.length_nil, List.nil_append, List.cons_append, Nat.reduceAdd, Nat.reduceSub, Nat.reduceLT, Nat.reduceEqDiff, Nat.reduceLeDiff, Nat.zero_add, Nat.lt_irrefl, Nat.succ_sub_one, and_true, true_and, and_false, false_and, not_false_eq_true, not_true_eq_false, Bool.false_eq_true, if_true, if_false, reduceIte, decide_true, decide_false, decide_eq_true_eq, Option.some.injEq, and_self, Nat.add_one_sub_one, Nat.lt_add_one, Nat.zero_lt_succ, Value.int.injEq, Value.ref.injEq, Value.long.injEq, exists_eq_left', exists_eq_left, Sum.inl.injEq, Sum.inr.injEq, h.t, wF_of (m_refused h _)]
  rfl
theorem m_granted (h : MdlT M X) : f_X10_granted [.ref X] M = some (some (.int 1), pI (pI M X 1 (n32 0)) X 2 (-1)) := by
  apply wF_eq
  unfold f_X10_granted b_X10_granted
  simp only [w_eK, w_eI, w_eL, w_eR, w_eT, w_b1, w_b2, w_b0, w_b0L, w_gI, w_gL, w_gN, w_gR, w_aI, w_aL, w_aR, w_aLen, w_tern, w_and, w_or, w_vN, vI, vJ, vA, vS, w_cFv, w_cFs, w_toI, w_toL, w_toV, w_nO, w_nA, eZ, cNot, s_skip, s_brk, s_cnt, s_retV, s_seq, s_if, s_set1, s_setL, s_inc, s_putI, s_putZ, s_putL, s_putR, s_upI, s_AI, s_AL, s_AR, s_UA, s_exp, s_ret, s_retZ, s_scope, s_unBrk, s_sw, s_sup, sSetI, sSetR, sRetI, sRetL, f_of, argE_n, argE_i, argE_r, argE_l, argE_a, sto_0, sto_s, sto_n0, sto_ns, isL_i, isL_r, isL_n, isL_a, isL_l, isL_0, rcv_r, rcv_a, List.getElem?_cons_zero, List.getElem?_cons_succ, List.getElem?_nil, List.set_cons_zero, List.set_cons_succ, List.take_succ_cons, List.take_zero, List.take_nil, List.length_cons, List.length_nil, List.nil_append, List.cons_append, Nat.reduceAdd, Nat.reduceSub, Nat.reduceLT, Nat.reduceEqDiff, Nat.reduceLeDiff, Nat.zero_add, Nat.lt_irrefl, Nat.succ_sub_one, and_true, true_and, and_false, false_and, not_false_eq_true, not_true_eq_false, Bool.false_eq_true, if_true, if_false, reduceIte, decide_true, decide_false, decide_eq_true_eq, Option.some.injEq, and_self, Nat.add_one_sub_one, Nat.lt_add_one, Nat.zero_lt_succ, Value.int.injEq, Value.ref.injEq, Value.long.injEq, exists_eq_left', exists_eq_left, Sum.inl.injEq, Sum.inr.injEq, h.t, wF_of (m_good h _)]
  rfl
/-- w changes -/
theorem Mdl.wch {M' : qM} {lo' : Lo} (h : Mdl M X C A) (ht : aTd A = true) (f : Fr (fun a => a = X + 2) M M') (g : MC M' X C (aPn A) lo') : Mdl M' X C (setLo A lo') := by
  refine ⟨h.T.fr f, ?_, ?_, ?_, ?_, fun i hi => ?_, fun e => ?_, fun _ => g, ?_, h.nac12, ?_, h.nmk3, fun i lo hi => ⟨(h.ac i lo hi).1.fr f (by omega), (h.ac i lo hi).2⟩, fun i lo hi => ⟨(h.mk i lo hi).1.fr f (by omega), (h.mk i lo hi).2⟩⟩
  · rw [f.vi (by omega)]; exact h.tr
  · rw [f.vi (by omega)]; exact h.wh
  · rw [f.vi (by omega)]; exact h.ft
  · rw [f.vi (by omega)]; exact h.tl
  · rw [f.vi (by omega)]; exact h.tp i hi
  · have : aTd A = false := e
    rw [ht] at this; cases this
  · rw [f.vi (by omega)]; exact h.nac
  · rw [f.vi (by omega)]; exact h.nmk
/-- w is replaced -/
theorem MC.wre {M' : qM} {lo' : Lo} (h : MC M X C p lo) (f : Fr (fun a => a = X + 2) M M') (W : LoW M' (X + 2) 0 lo') (L : LoOK (pK p) lo') : MC M' X C p lo' :=
  ⟨h.T.fr f, by rw [f.vr]; exact h.r3, h.D.fr f, h.V.fr f (fun a h1 h2 e => by have := h.d; omega), h.O, W, L, h.d⟩
theorem m_weaves (h : MC M X C p lo) {s r : Nat} (hs : s < 2) (hr : r < pK p) (hc : lC lo s < 24) (ht : pTk p r ≤ lS lo s (pCol p r)) : ∃ M', f_X10_weaves [.ref X, .int (n32 s), .int (n32 r)] M = some (none, M') ∧ Fr (fun a => a = X + 2) M M' ∧ MC M' X C p (lAdd p lo s r) := by
  have hk := h.O.kinds
  have hcl := h.O.col r hr
  have hcs := h.O.cols
  have hd := h.d
  have F : Fr (fun a => a = X + 2) M (pI (pI (pI M (X + 2) (24 * s + lC lo s) (n32 r)) (X + 2) (48 + s) (n32 (lC lo s + 1))) (X + 2) (50 + (2 * s + pCol p r)) (n32 (lS lo s (pCol p r) - pTk p r))) := (((Fr.refl (fun a => a = X + 2) M).pI _ _ rfl).pI _ _ rfl).pI _ _ rfl
  have D1 : ∀ m, Fr (fun a => a = X + 2) M m → f_X10_dye [.ref X, .int (n32 s), .int (n32 r)] m = some (some (.int (n32 (2 * s + pCol p r))), m) := by
    intro m f
    have T := h.T.fr f
    have D := h.D.fr f
    have V := h.V.fr f (fun a h1 h2 e => by omega)
    apply wF_eq
    unfold f_X10_dye b_X10_dye
    simp (disch := omega) only [w_eK, w_eI, w_eL, w_eR, w_eT, w_b1, w_b2, w_b0, w_b0L, w_gI, w_gL, w_gN, w_gR, w_aI, w_aL, w_aR, w_aLen, w_tern, w_and, w_or, w_vN, vI, vJ, vA, vS, w_cFv, w_cFs, w_toI, w_toL, w_toV, w_nO, w_nA, eZ, cNot, s_skip, s_brk, s_cnt, s_retV, s_seq, s_if, s_set1, s_setL, s_inc, s_putI, s_putZ, s_putL, s_putR, s_upI, s_AI, s_AL, s_AR, s_UA, s_exp, s_ret, s_retZ, s_scope, s_unBrk, s_sw, s_sup, sSetI, sSetR, sRetI, sRetL, f_of, argE_n, argE_i, argE_r, argE_l, argE_a, sto_0, sto_s, sto_n0, sto_ns, isL_i, isL_r, isL_n, isL_a, isL_l, isL_0, rcv_r, rcv_a, List.getElem?_cons_zero, List.getElem?_cons_succ, List.getElem?_nil, List.set_cons_zero, List.set_cons_succ, List.take_succ_cons, List.take_zero, List.take_nil, List.length_cons, List.length_nil, List.nil_append, List.cons_append, Nat.reduceAdd, Nat.reduceSub, Nat.reduceLT, Nat.reduceEqDiff, Nat.reduceLeDiff, Nat.zero_add, Nat.lt_irrefl, Nat.succ_sub_one, and_true, true_and, and_false, false_and, not_false_eq_true, not_true_eq_false, Bool.false_eq_true, if_true, if_false, reduceIte, decide_true, decide_false, decide_eq_true_eq, Option.some.injEq, and_self, Nat.add_one_sub_one, Nat.lt_add_one, Nat.zero_lt_succ, Value.int.injEq, Value.ref.injEq, Value.long.injEq, exists_eq_left', exists_eq_left, Sum.inl.injEq, Sum.inr.injEq, l_0, l_1, l_2, l_3, l_4, l_5, l_6, l_7, l_8, l_9, l_10, l_12, l_20, l_23, l_24, l_25, l_32, l_48, l_60, l_100, l_200, l_255, l_900, n32_add, n32_mul, n32_inc, neg1, neg2, l_11, l_50, l_54, l_58, l_59, l_649, T.t, f.vr, h.r3, D.t, D.r17, D.t9, n_iEq, n_iNe, n_iLt, n_iLe, n_iGt, n_iGe, n_zEq, n_zLt, n_zLe, n_zGt, n_zGe, n_inb, n32_clamp, V.col r hr]
    omega
  have key : wF f_X10_weaves [.ref X, .int (n32 s), .int (n32 r)] M (fun v m => v = none ∧ m = pI (pI (pI M (X + 2) (24 * s + lC lo s) (n32 r)) (X + 2) (48 + s) (n32 (lC lo s + 1))) (X + 2) (50 + (2 * s + pCol p r)) (n32 (lS lo s (pCol p r) - pTk p r))) := by
    have c1 : vi (pI M (X + 2) (24 * s + lC lo s) (n32 r)) (X + 2) (48 + s) = n32 (lC lo s) := by rw [vi_nk (by omega)]; exact h.W.c0 hs
    have c2 : vi (pI (pI M (X + 2) (24 * s + lC lo s) (n32 r)) (X + 2) (48 + s) (n32 (lC lo s + 1))) (X + 2) (50 + (2 * s + pCol p r)) = n32 (lS lo s (pCol p r)) := by rw [vi_nk (by omega), vi_nk (by omega)]; exact h.W.st0 hs (by omega)
    unfold f_X10_weaves b_X10_weaves
    simp (disch := omega) only [w_eK, w_eI, w_eL, w_eR, w_eT, w_b1, w_b2, w_b0, w_b0L, w_gI, w_gL, w_gN, w_gR, w_aI, w_aL, w_aR, w_aLen, w_tern, w_and, w_or, w_vN, vI, vJ, vA, vS, w_cFv, w_cFs, w_toI, w_toL, w_toV, w_nO, w_nA, eZ, cNot, s_skip, s_brk, s_cnt, s_retV, s_seq, s_if, s_set1, s_setL, s_inc, s_putI, s_putZ, s_putL, s_putR, s_upI, s_AI, s_AL, s_AR, s_UA, s_exp, s_ret, s_retZ, s_scope, s_unBrk, s_sw, s_sup, sSetI, sSetR, sRetI, sRetL, f_of, argE_n, argE_i, argE_r, argE_l, argE_a, sto_0, sto_s, sto_n0, sto_ns, isL_i, isL_r, isL_n, isL_a, isL_l, isL_0, rcv_r, rcv_a, List.getElem?_cons_zero, List.getElem?_cons_succ, List.getElem?_nil, List.set_cons_zero, List.set_cons_succ, List.take_succ_cons, List.take_zero, List.take_nil, List.length_cons, List.length_nil, List.nil_append, List.cons_append, Nat.reduceAdd, Nat.reduceSub, Nat.reduceLT, Nat.reduceEqDiff, Nat.reduceLeDiff, Nat.zero_add, Nat.lt_irrefl, Nat.succ_sub_one, and_true, true_and, and_false, false_and, not_false_eq_true, not_true_eq_false, Bool.false_eq_true, if_true, if_false, reduceIte, decide_true, decide_false, decide_eq_true_eq, Option.some.injEq, and_self, Nat.add_one_sub_one, Nat.lt_add_one, Nat.zero_lt_succ, Value.int.injEq, Value.ref.injEq, Value.long.injEq, exists_eq_left', exists_eq_left, Sum.inl.injEq, Sum.inr.injEq, l_0, l_1, l_2, l_3, l_4, l_5, l_6, l_7, l_8, l_9, l_10, l_12, l_20, l_23, l_24, l_25, l_32, l_48, l_60, l_100, l_200, l_255, l_900, n32_add, n32_mul, n32_inc, neg1, neg2, l_11, l_50, l_54, l_58, l_59, l_649, h.T.t, h.T.r16, h.T.t2, wF_of (m_many h hs), n_iEq, n_iNe, n_iLt, n_iLe, n_iGt, n_iGe, n_zEq, n_zLt, n_zLe, n_zGt, n_zGe, n_inb, n32_clamp, tg_pI, tg_pL, tg_pR, vr_pI, vr_pL, vl_pI, vl_pR, vi_pL, vi_pR, mN_pI, mN_pL, mN_pR, mU_pI, mU_pL, mU_pR, nar, c1, wF_of (D1 _ (((Fr.refl (fun a => a = X + 2) M).pI _ _ rfl).pI _ _ rfl)), c2, h.r3, h.D.t, h.D.r18, h.D.t10, vi_ne, h.V.tk r hr, n32_sub]
    (repeat' apply And.intro) <;> omega
  obtain ⟨v, m, h1, rfl, rfl⟩ := key
  refine ⟨_, h1, F, h.wre F ⟨fun t ht' => ?_, fun t i ht' hi => ?_, fun t c ht' hc' => ?_, fun t c ht' hc' => ?_, ?_⟩ (h.L.add hr hc hs (by omega))⟩
  · rw [Nat.zero_add, vi_nk (by omega), vi_pI]
    show _ = n32 (u1 (lC lo) s (lC lo s + 1) t)
    unfold u1
    by_cases e : t = s
    · simp [e]
    · rw [if_neg (fun z => e (by omega)), if_neg e, vi_nk (by omega)]
      exact h.W.c0 ht'
  · have hi : i < u1 (lC lo) s (lC lo s + 1) t := hi
    have hct := h.L.c t ht'
    have hi2 : i < 24 := by
      unfold u1 at hi
      split at hi
      · omega
      · omega
    rw [Nat.zero_add, vi_nk (by omega), vi_nk (by omega), vi_pI]
    show _ = n32 (u2 (lR lo) s (lC lo s) r t i)
    unfold u2
    unfold u1 at hi
    by_cases e : t = s ∧ i = lC lo s
    · rw [if_pos (by rw [e.1, e.2]; exact ⟨rfl, rfl⟩), if_pos e]
    · have hit : i < lC lo t := by
        split at hi
        · rename_i e'; subst e'; omega
        · exact hi
      rw [if_neg (fun z => e (by
        have := z.2
        constructor <;> omega)), if_neg e]
      exact h.W.r0 ht' hit
  · rw [Nat.zero_add, vi_pI]
    show _ = n32 (u2 (lS lo) s (pCol p r) (lS lo s (pCol p r) - pTk p r) t c)
    unfold u2
    by_cases e : t = s ∧ c = pCol p r
    · rw [if_pos (by rw [e.1, e.2]; exact ⟨rfl, rfl⟩), if_pos e]
    · rw [if_neg (fun z => e (by
        have := z.2
        constructor <;> omega)), if_neg e, vi_nk (by omega), vi_nk (by omega)]
      exact h.W.st0 ht' hc'
  · rw [Nat.zero_add, vi_nk (by omega), vi_nk (by omega), vi_nk (by omega)]
    exact h.W.w0 ht' hc'
  · rw [Nat.zero_add, vi_nk (by omega), vi_nk (by omega), vi_nk (by omega)]
    exact h.W.k0
/-- keeps -/
theorem m_keeps (h : Mdl M X C A) (htd : aTd A = true) : ∃ M', f_X10_keeps [.ref X] M = some (none, M') ∧ Fr (fun a => a = X ∨ a = X + 3) M M' ∧ Mdl M' X C (setAc A (keepL (aAc A) (aLm A))) := by
  have hn := h.nac12
  have hy := h.Y htd
  have hd := hy.d
  -- the copy behind the n-th
  have tail : ∀ (m : qM) (n : Nat) (l : List Lo), n < 12 → Fr (fun a => a = X ∨ a = X + 3) M m → vi m X 19 = n32 n → (∀ j, j ≠ 19 → vi m X j = vi M X j) → l.length = n → (∀ (i : Nat) (lo : Lo), l[i]? = some lo → LoW m (X + 3) (59 * i) lo ∧ LoOK (pK (aPn A)) lo) →
      wS (sLoop (b2 iLt (eI 1) (eK (n32 59))) (sAI 20 (gR 11 17 (eR 0)) (b2 (fun x y => x + y) (b2 (fun x y => x * y) (eK (n32 59)) (gI 11 19 (eR 0))) (eI 1)) (aI 20 (gR 11 16 (eR 0)) (eI 1))) (sInc 1 (1))) [.ref X, .int (n32 0)] m (fun r e m' => r = .inl 0 ∧ e = [.ref X, .int (n32 59)] ∧ Fr (fun a => a = X ∨ a = X + 3) M m' ∧ vi m' X 19 = n32 n ∧ (∀ j, j ≠ 19 → vi m' X j = vi M X j) ∧ (∀ (i : Nat) (lo : Lo), (l ++ [aLm A])[i]? = some lo → LoW m' (X + 3) (59 * i) lo ∧ LoOK (pK (aPn A)) lo)) := by
    intro m n l hn12 f h19 hj hl hlo
    refine s_up (fun j e m' => e = [.ref X, .int (n32 j)] ∧ Fr (fun a => a = X ∨ a = X + 3) M m' ∧ vi m' X 19 = n32 n ∧ (∀ j, j ≠ 19 → vi m' X j = vi M X j) ∧ (∀ q, q < j → vi m' (X + 3) (59 * n + q) = vi M (X + 2) q) ∧ (∀ q, q < 59 * n → vi m' (X + 3) q = vi m (X + 3) q)) 59 ⟨rfl, f, h19, hj, fun q hq => by omega, fun q hq => rfl⟩ ?_ ?_
    · rintro j e m' hj59 ⟨rfl, f', h1, h2, h3, h4⟩
      have T' := h.T.fr f'
      simp (disch := omega) only [w_eK, w_eI, w_eL, w_eR, w_eT, w_b1, w_b2, w_b0, w_b0L, w_gI, w_gL, w_gN, w_gR, w_aI, w_aL, w_aR, w_aLen, w_tern, w_and, w_or, w_vN, vI, vJ, vA, vS, w_cFv, w_cFs, w_toI, w_toL, w_toV, w_nO, w_nA, eZ, cNot, s_skip, s_brk, s_cnt, s_retV, s_seq, s_if, s_set1, s_setL, s_inc, s_putI, s_putZ, s_putL, s_putR, s_upI, s_AI, s_AL, s_AR, s_UA, s_exp, s_ret, s_retZ, s_scope, s_unBrk, s_sw, s_sup, sSetI, sSetR, sRetI, sRetL, f_of, argE_n, argE_i, argE_r, argE_l, argE_a, sto_0, sto_s, sto_n0, sto_ns, isL_i, isL_r, isL_n, isL_a, isL_l, isL_0, rcv_r, rcv_a, List.getElem?_cons_zero, List.getElem?_cons_succ, List.getElem?_nil, List.set_cons_zero, List.set_cons_succ, List.take_succ_cons, List.take_zero, List.take_nil, List.length_cons, List.length_nil, List.nil_append, List.cons_append, Nat.reduceAdd, Nat.reduceSub, Nat.reduceLT, Nat.reduceEqDiff, Nat.reduceLeDiff, Nat.zero_add, Nat.lt_irrefl, Nat.succ_sub_one, and_true, true_and, and_false, false_and, not_false_eq_true, not_true_eq_false, Bool.false_eq_true, if_true, if_false, reduceIte, decide_true, decide_false, decide_eq_true_eq, Option.some.injEq, and_self, Nat.add_one_sub_one, Nat.lt_add_one, Nat.zero_lt_succ, Value.int.injEq, Value.ref.injEq, Value.long.injEq, exists_eq_left', exists_eq_left, Sum.inl.injEq, Sum.inr.injEq, l_0, l_1, l_2, l_3, l_4, l_5, l_6, l_7, l_8, l_9, l_10, l_12, l_20, l_23, l_24, l_25, l_32, l_48, l_60, l_100, l_200, l_255, l_900, n32_add, n32_mul, n32_inc, neg1, neg2, l_11, l_50, l_54, l_58, l_59, l_649, n_iEq, n_iNe, n_iLt, n_iLe, n_iGt, n_iGe, n_zEq, n_zLt, n_zLe, n_zGt, n_zGe, n_inb, n32_clamp, hj59, T'.t, T'.r17, T'.t3, h1, T'.r16, T'.t2, nar, n32_inc]
      refine ⟨by omega, f'.pI _ _ (Or.inr rfl), by rw [vi_ne (by omega)]; exact h1, fun k hk => by rw [vi_ne (by omega)]; exact h2 k hk, fun q hq => ?_, fun q hq => ?_⟩
      · rw [vi_pI]
        by_cases eq : q = j
        · subst eq
          rw [if_pos ⟨rfl, rfl⟩, f'.vi (by omega)]
        · rw [if_neg (fun z => eq (by omega))]; exact h3 q (by omega)
      · rw [vi_nk (by omega)]; exact h4 q hq
    · rintro e m' ⟨rfl, f', h1, h2, h3, h4⟩
      simp (disch := omega) only [w_eK, w_eI, w_eL, w_eR, w_eT, w_b1, w_b2, w_b0, w_b0L, w_gI, w_gL, w_gN, w_gR, w_aI, w_aL, w_aR, w_aLen, w_tern, w_and, w_or, w_vN, vI, vJ, vA, vS, w_cFv, w_cFs, w_toI, w_toL, w_toV, w_nO, w_nA, eZ, cNot, s_skip, s_brk, s_cnt, s_retV, s_seq, s_if, s_set1, s_setL, s_inc, s_putI, s_putZ, s_putL, s_putR, s_upI, s_AI, s_AL, s_AR, s_UA, s_exp, s_ret, s_retZ, s_scope, s_unBrk, s_sw, s_sup, sSetI, sSetR, sRetI, sRetL, f_of, argE_n, argE_i, argE_r, argE_l, argE_a, sto_0, sto_s, sto_n0, sto_ns, isL_i, isL_r, isL_n, isL_a, isL_l, isL_0, rcv_r, rcv_a, List.getElem?_cons_zero, List.getElem?_cons_succ, List.getElem?_nil, List.set_cons_zero, List.set_cons_succ, List.take_succ_cons, List.take_zero, List.take_nil, List.length_cons, List.length_nil, List.nil_append, List.cons_append, Nat.reduceAdd, Nat.reduceSub, Nat.reduceLT, Nat.reduceEqDiff, Nat.reduceLeDiff, Nat.zero_add, Nat.lt_irrefl, Nat.succ_sub_one, and_true, true_and, and_false, false_and, not_false_eq_true, not_true_eq_false, Bool.false_eq_true, if_true, if_false, reduceIte, decide_true, decide_false, decide_eq_true_eq, Option.some.injEq, and_self, Nat.add_one_sub_one, Nat.lt_add_one, Nat.zero_lt_succ, Value.int.injEq, Value.ref.injEq, Value.long.injEq, exists_eq_left', exists_eq_left, Sum.inl.injEq, Sum.inr.injEq, l_0, l_1, l_2, l_3, l_4, l_5, l_6, l_7, l_8, l_9, l_10, l_12, l_20, l_23, l_24, l_25, l_32, l_48, l_60, l_100, l_200, l_255, l_900, n32_add, n32_mul, n32_inc, neg1, neg2, l_11, l_50, l_54, l_58, l_59, l_649, n_iEq, n_iNe, n_iLt, n_iLe, n_iGt, n_iGe, n_zEq, n_zLt, n_zLe, n_zGt, n_zGe, n_inb, n32_clamp]
      refine ⟨f', h1, h2, fun i lo hi => ?_⟩
      by_cases hlt : i < l.length
      · rw [List.getElem?_append_left hlt] at hi
        refine ⟨(hlo i lo hi).1.move (hlo i lo hi).2 (fun q hq => ?_), (hlo i lo hi).2⟩
        exact h4 _ (by omega)
      · have hi2 : i = l.length := by
          have := (List.getElem?_eq_some_iff.mp hi).1
          simp at this
          omega
        subst hi2
        rw [List.getElem?_append_right (Nat.le_refl _)] at hi
        simp at hi
        subst hi
        refine ⟨hy.W.move hy.L (fun q hq => ?_), hy.L⟩
        rw [hl, h3 q hq, Nat.zero_add]
  have fin : ∀ (m : qM) (l : List Lo), l.length ≤ 11 → Fr (fun a => a = X ∨ a = X + 3) M m → (∀ j, j ≠ 19 → vi m X j = vi M X j) → (∀ (i : Nat) (lo : Lo), (l ++ [aLm A])[i]? = some lo → LoW m (X + 3) (59 * i) lo ∧ LoOK (pK (aPn A)) lo) → Mdl (pI m X 19 (n32 (l.length + 1))) X C (setAc A (l ++ [aLm A])) := by
    intro m l hl f hj hlo
    have f2 : Fr (fun a => a = X ∨ a = X + 3) M (pI m X 19 (n32 (l.length + 1))) := f.pI _ _ (Or.inl rfl)
    have f3 : Fr (fun a => a = X) m (pI m X 19 (n32 (l.length + 1))) := (Fr.refl _ m).pI _ _ rfl
    refine ⟨h.T.fr f2, ?_, ?_, ?_, ?_, fun i hi => ?_, fun e => ?_, fun e => (h.Y e).fr f2 (fun a z => by omega), ?_, ?_, ?_, h.nmk3, fun i lo hi => ⟨(hlo i lo hi).1.fr f3 (by omega), (hlo i lo hi).2⟩, fun i lo hi => ⟨(h.mk i lo hi).1.fr f2 (by omega), (h.mk i lo hi).2⟩⟩
    · rw [vi_nk (by decide), hj _ (by decide)]; exact h.tr
    · rw [vi_nk (by decide), hj _ (by decide)]; exact h.wh
    · rw [vi_nk (by decide), hj _ (by decide)]; exact h.ft
    · rw [vi_nk (by decide), hj _ (by decide)]; exact h.tl
    · rw [f2.vi (by omega)]; exact h.tp i hi
    · have : aTd A = false := e
      rw [htd] at this; cases this
    · rw [vi_self]
      show n32 (l.length + 1) = n32 (l ++ [aLm A]).length
      simp
    · show (l ++ [aLm A]).length ≤ 12
      simp; omega
    · rw [vi_nk (by decide), hj _ (by decide)]; exact h.nmk
  have key : wF f_X10_keeps [.ref X] M (fun v m => v = none ∧ Fr (fun a => a = X ∨ a = X + 3) M m ∧ Mdl m X C (setAc A (keepL (aAc A) (aLm A)))) := by
    unfold f_X10_keeps b_X10_keeps
    simp (disch := omega) only [w_eK, w_eI, w_eL, w_eR, w_eT, w_b1, w_b2, w_b0, w_b0L, w_gI, w_gL, w_gN, w_gR, w_aI, w_aL, w_aR, w_aLen, w_tern, w_and, w_or, w_vN, vI, vJ, vA, vS, w_cFv, w_cFs, w_toI, w_toL, w_toV, w_nO, w_nA, eZ, cNot, s_skip, s_brk, s_cnt, s_retV, s_seq, s_if, s_set1, s_setL, s_inc, s_putI, s_putZ, s_putL, s_putR, s_upI, s_AI, s_AL, s_AR, s_UA, s_exp, s_ret, s_retZ, s_scope, s_unBrk, s_sw, s_sup, sSetI, sSetR, sRetI, sRetL, f_of, argE_n, argE_i, argE_r, argE_l, argE_a, sto_0, sto_s, sto_n0, sto_ns, isL_i, isL_r, isL_n, isL_a, isL_l, isL_0, rcv_r, rcv_a, List.getElem?_cons_zero, List.getElem?_cons_succ, List.getElem?_nil, List.set_cons_zero, List.set_cons_succ, List.take_succ_cons, List.take_zero, List.take_nil, List.length_cons, List.length_nil, List.nil_append, List.cons_append, Nat.reduceAdd, Nat.reduceSub, Nat.reduceLT, Nat.reduceEqDiff, Nat.reduceLeDiff, Nat.zero_add, Nat.lt_irrefl, Nat.succ_sub_one, and_true, true_and, and_false, false_and, not_false_eq_true, not_true_eq_false, Bool.false_eq_true, if_true, if_false, reduceIte, decide_true, decide_false, decide_eq_true_eq, Option.some.injEq, and_self, Nat.add_one_sub_one, Nat.lt_add_one, Nat.zero_lt_succ, Value.int.injEq, Value.ref.injEq, Value.long.injEq, exists_eq_left', exists_eq_left, Sum.inl.injEq, Sum.inr.injEq, l_0, l_1, l_2, l_3, l_4, l_5, l_6, l_7, l_8, l_9, l_10, l_12, l_20, l_23, l_24, l_25, l_32, l_48, l_60, l_100, l_200, l_255, l_900, n32_add, n32_mul, n32_inc, neg1, neg2, l_11, l_50, l_54, l_58, l_59, l_649, h.T.t, h.nac, n_iEq, n_iNe, n_iLt, n_iLe, n_iGt, n_iGe, n_zEq, n_zLt, n_zLe, n_zGt, n_zGe, n_inb, n32_clamp]
    by_cases e12 : (aAc A).length = 12
    · have kl : keepL (aAc A) (aLm A) = (aAc A).tail ++ [aLm A] := by unfold keepL; rw [if_pos (by omega)]
      simp only [e12, w_eK, w_eI, w_eL, w_eR, w_eT, w_b1, w_b2, w_b0, w_b0L, w_gI, w_gL, w_gN, w_gR, w_aI, w_aL, w_aR, w_aLen, w_tern, w_and, w_or, w_vN, vI, vJ, vA, vS, w_cFv, w_cFs, w_toI, w_toL, w_toV, w_nO, w_nA, eZ, cNot, s_skip, s_brk, s_cnt, s_retV, s_seq, s_if, s_set1, s_setL, s_inc, s_putI, s_putZ, s_putL, s_putR, s_upI, s_AI, s_AL, s_AR, s_UA, s_exp, s_ret, s_retZ, s_scope, s_unBrk, s_sw, s_sup, sSetI, sSetR, sRetI, sRetL, f_of, argE_n, argE_i, argE_r, argE_l, argE_a, sto_0, sto_s, sto_n0, sto_ns, isL_i, isL_r, isL_n, isL_a, isL_l, isL_0, rcv_r, rcv_a, List.getElem?_cons_zero, List.getElem?_cons_succ, List.getElem?_nil, List.set_cons_zero, List.set_cons_succ, List.take_succ_cons, List.take_zero, List.take_nil, List.length_cons, List.length_nil, List.nil_append, List.cons_append, Nat.reduceAdd, Nat.reduceSub, Nat.reduceLT, Nat.reduceEqDiff, Nat.reduceLeDiff, Nat.zero_add, Nat.lt_irrefl, Nat.succ_sub_one, and_true, true_and, and_false, false_and, not_false_eq_true, not_true_eq_false, Bool.false_eq_true, if_true, if_false, reduceIte, decide_true, decide_false, decide_eq_true_eq, Option.some.injEq, and_self, Nat.add_one_sub_one, Nat.lt_add_one, Nat.zero_lt_succ, Value.int.injEq, Value.ref.injEq, Value.long.injEq, exists_eq_left', exists_eq_left, Sum.inl.injEq, Sum.inr.injEq]
      refine s_up (fun j e m => e = [.ref X, .int (n32 j)] ∧ Fr (fun a => a = X + 3) M m ∧ (∀ q, q < j → vi m (X + 3) q = vi M (X + 3) (q + 59)) ∧ (∀ q, j ≤ q → vi m (X + 3) q = vi M (X + 3) q)) 649 ⟨rfl, Fr.refl _ _, fun q hq => by omega, fun q hq => rfl⟩ ?_ ?_
      · rintro j e m hj ⟨rfl, f, h1, h2⟩
        have T' := h.T.fr f
        simp (disch := omega) only [w_eK, w_eI, w_eL, w_eR, w_eT, w_b1, w_b2, w_b0, w_b0L, w_gI, w_gL, w_gN, w_gR, w_aI, w_aL, w_aR, w_aLen, w_tern, w_and, w_or, w_vN, vI, vJ, vA, vS, w_cFv, w_cFs, w_toI, w_toL, w_toV, w_nO, w_nA, eZ, cNot, s_skip, s_brk, s_cnt, s_retV, s_seq, s_if, s_set1, s_setL, s_inc, s_putI, s_putZ, s_putL, s_putR, s_upI, s_AI, s_AL, s_AR, s_UA, s_exp, s_ret, s_retZ, s_scope, s_unBrk, s_sw, s_sup, sSetI, sSetR, sRetI, sRetL, f_of, argE_n, argE_i, argE_r, argE_l, argE_a, sto_0, sto_s, sto_n0, sto_ns, isL_i, isL_r, isL_n, isL_a, isL_l, isL_0, rcv_r, rcv_a, List.getElem?_cons_zero, List.getElem?_cons_succ, List.getElem?_nil, List.set_cons_zero, List.set_cons_succ, List.take_succ_cons, List.take_zero, List.take_nil, List.length_cons, List.length_nil, List.nil_append, List.cons_append, Nat.reduceAdd, Nat.reduceSub, Nat.reduceLT, Nat.reduceEqDiff, Nat.reduceLeDiff, Nat.zero_add, Nat.lt_irrefl, Nat.succ_sub_one, and_true, true_and, and_false, false_and, not_false_eq_true, not_true_eq_false, Bool.false_eq_true, if_true, if_false, reduceIte, decide_true, decide_false, decide_eq_true_eq, Option.some.injEq, and_self, Nat.add_one_sub_one, Nat.lt_add_one, Nat.zero_lt_succ, Value.int.injEq, Value.ref.injEq, Value.long.injEq, exists_eq_left', exists_eq_left, Sum.inl.injEq, Sum.inr.injEq, l_0, l_1, l_2, l_3, l_4, l_5, l_6, l_7, l_8, l_9, l_10, l_12, l_20, l_23, l_24, l_25, l_32, l_48, l_60, l_100, l_200, l_255, l_900, n32_add, n32_mul, n32_inc, neg1, neg2, l_11, l_50, l_54, l_58, l_59, l_649, n_iEq, n_iNe, n_iLt, n_iLe, n_iGt, n_iGe, n_zEq, n_zLt, n_zLe, n_zGt, n_zGe, n_inb, n32_clamp, hj, T'.t, T'.r17, T'.t3, nar, n32_inc]
        refine ⟨by omega, by omega, f.pI _ _ rfl, fun q hq => ?_, fun q hq => ?_⟩
        · rw [vi_pI]
          by_cases eq : q = j
          · subst eq
            rw [if_pos ⟨rfl, rfl⟩, h2 _ (by omega)]
          · rw [if_neg (fun z => eq z.2)]; exact h1 q (by omega)
        · rw [vi_nk (by omega)]; exact h2 q (by omega)
      · rintro e m ⟨rfl, f, h1, h2⟩
        have f' : Fr (fun a => a = X ∨ a = X + 3) M m := f.mono (fun a z => Or.inr z)
        have h19 : vi m X 19 = n32 12 := by rw [f.vi (by omega), h.nac, e12]
        have T' := h.T.fr f
        have hlen : (aAc A).tail.length = 11 := by rw [List.length_tail, e12]
        simp (disch := omega) only [w_eK, w_eI, w_eL, w_eR, w_eT, w_b1, w_b2, w_b0, w_b0L, w_gI, w_gL, w_gN, w_gR, w_aI, w_aL, w_aR, w_aLen, w_tern, w_and, w_or, w_vN, vI, vJ, vA, vS, w_cFv, w_cFs, w_toI, w_toL, w_toV, w_nO, w_nA, eZ, cNot, s_skip, s_brk, s_cnt, s_retV, s_seq, s_if, s_set1, s_setL, s_inc, s_putI, s_putZ, s_putL, s_putR, s_upI, s_AI, s_AL, s_AR, s_UA, s_exp, s_ret, s_retZ, s_scope, s_unBrk, s_sw, s_sup, sSetI, sSetR, sRetI, sRetL, f_of, argE_n, argE_i, argE_r, argE_l, argE_a, sto_0, sto_s, sto_n0, sto_ns, isL_i, isL_r, isL_n, isL_a, isL_l, isL_0, rcv_r, rcv_a, List.getElem?_cons_zero, List.getElem?_cons_succ, List.getElem?_nil, List.set_cons_zero, List.set_cons_succ, List.take_succ_cons, List.take_zero, List.take_nil, List.length_cons, List.length_nil, List.nil_append, List.cons_append, Nat.reduceAdd, Nat.reduceSub, Nat.reduceLT, Nat.reduceEqDiff, Nat.reduceLeDiff, Nat.zero_add, Nat.lt_irrefl, Nat.succ_sub_one, and_true, true_and, and_false, false_and, not_false_eq_true, not_true_eq_false, Bool.false_eq_true, if_true, if_false, reduceIte, decide_true, decide_false, decide_eq_true_eq, Option.some.injEq, and_self, Nat.add_one_sub_one, Nat.lt_add_one, Nat.zero_lt_succ, Value.int.injEq, Value.ref.injEq, Value.long.injEq, exists_eq_left', exists_eq_left, Sum.inl.injEq, Sum.inr.injEq, l_0, l_1, l_2, l_3, l_4, l_5, l_6, l_7, l_8, l_9, l_10, l_12, l_20, l_23, l_24, l_25, l_32, l_48, l_60, l_100, l_200, l_255, l_900, n32_add, n32_mul, n32_inc, neg1, neg2, l_11, l_50, l_54, l_58, l_59, l_649, n_iEq, n_iNe, n_iLt, n_iLe, n_iGt, n_iGe, n_zEq, n_zLt, n_zLe, n_zGt, n_zGe, n_inb, n32_clamp, T'.t, h19, n32_sub]
        refine (tail (pI m X 19 (n32 11)) 11 (aAc A).tail (by decide) (f'.pI _ _ (Or.inl rfl)) (vi_self _ _ _ _) (fun j hj => by rw [vi_nk hj, f.vi (by omega)]) hlen (fun i lo hi => ?_)).mono ?_
        · rw [List.getElem?_tail] at hi
          have hi' : i + 1 < 12 := by
            have := (List.getElem?_eq_some_iff.mp hi).1
            omega
          refine ⟨(h.ac (i + 1) lo hi).1.move (h.ac (i + 1) lo hi).2 (fun q hq => ?_), (h.ac (i + 1) lo hi).2⟩
          rw [vi_ne (by omega), h1 _ (by omega)]
          congr 1; omega
        · rintro r e m' ⟨rfl, rfl, g1, g2, g3, g4⟩
          have T2 := h.T.fr g1
          simp (disch := omega) only [w_eK, w_eI, w_eL, w_eR, w_eT, w_b1, w_b2, w_b0, w_b0L, w_gI, w_gL, w_gN, w_gR, w_aI, w_aL, w_aR, w_aLen, w_tern, w_and, w_or, w_vN, vI, vJ, vA, vS, w_cFv, w_cFs, w_toI, w_toL, w_toV, w_nO, w_nA, eZ, cNot, s_skip, s_brk, s_cnt, s_retV, s_seq, s_if, s_set1, s_setL, s_inc, s_putI, s_putZ, s_putL, s_putR, s_upI, s_AI, s_AL, s_AR, s_UA, s_exp, s_ret, s_retZ, s_scope, s_unBrk, s_sw, s_sup, sSetI, sSetR, sRetI, sRetL, f_of, argE_n, argE_i, argE_r, argE_l, argE_a, sto_0, sto_s, sto_n0, sto_ns, isL_i, isL_r, isL_n, isL_a, isL_l, isL_0, rcv_r, rcv_a, List.getElem?_cons_zero, List.getElem?_cons_succ, List.getElem?_nil, List.set_cons_zero, List.set_cons_succ, List.take_succ_cons, List.take_zero, List.take_nil, List.length_cons, List.length_nil, List.nil_append, List.cons_append, Nat.reduceAdd, Nat.reduceSub, Nat.reduceLT, Nat.reduceEqDiff, Nat.reduceLeDiff, Nat.zero_add, Nat.lt_irrefl, Nat.succ_sub_one, and_true, true_and, and_false, false_and, not_false_eq_true, not_true_eq_false, Bool.false_eq_true, if_true, if_false, reduceIte, decide_true, decide_false, decide_eq_true_eq, Option.some.injEq, and_self, Nat.add_one_sub_one, Nat.lt_add_one, Nat.zero_lt_succ, Value.int.injEq, Value.ref.injEq, Value.long.injEq, exists_eq_left', exists_eq_left, Sum.inl.injEq, Sum.inr.injEq, l_0, l_1, l_2, l_3, l_4, l_5, l_6, l_7, l_8, l_9, l_10, l_12, l_20, l_23, l_24, l_25, l_32, l_48, l_60, l_100, l_200, l_255, l_900, n32_add, n32_mul, n32_inc, neg1, neg2, l_11, l_50, l_54, l_58, l_59, l_649, T2.t, g2]
          refine ⟨g1.pI _ _ (Or.inl rfl), ?_⟩
          have := fin m' (aAc A).tail (by omega) g1 g3 g4
          rw [hlen] at this
          rw [kl]; exact this
    · have kl : keepL (aAc A) (aLm A) = aAc A ++ [aLm A] := by unfold keepL; rw [if_neg (by omega)]
      simp only [e12, w_eK, w_eI, w_eL, w_eR, w_eT, w_b1, w_b2, w_b0, w_b0L, w_gI, w_gL, w_gN, w_gR, w_aI, w_aL, w_aR, w_aLen, w_tern, w_and, w_or, w_vN, vI, vJ, vA, vS, w_cFv, w_cFs, w_toI, w_toL, w_toV, w_nO, w_nA, eZ, cNot, s_skip, s_brk, s_cnt, s_retV, s_seq, s_if, s_set1, s_setL, s_inc, s_putI, s_putZ, s_putL, s_putR, s_upI, s_AI, s_AL, s_AR, s_UA, s_exp, s_ret, s_retZ, s_scope, s_unBrk, s_sw, s_sup, sSetI, sSetR, sRetI, sRetL, f_of, argE_n, argE_i, argE_r, argE_l, argE_a, sto_0, sto_s, sto_n0, sto_ns, isL_i, isL_r, isL_n, isL_a, isL_l, isL_0, rcv_r, rcv_a, List.getElem?_cons_zero, List.getElem?_cons_succ, List.getElem?_nil, List.set_cons_zero, List.set_cons_succ, List.take_succ_cons, List.take_zero, List.take_nil, List.length_cons, List.length_nil, List.nil_append, List.cons_append, Nat.reduceAdd, Nat.reduceSub, Nat.reduceLT, Nat.reduceEqDiff, Nat.reduceLeDiff, Nat.zero_add, Nat.lt_irrefl, Nat.succ_sub_one, and_true, true_and, and_false, false_and, not_false_eq_true, not_true_eq_false, Bool.false_eq_true, if_true, if_false, reduceIte, decide_true, decide_false, decide_eq_true_eq, Option.some.injEq, and_self, Nat.add_one_sub_one, Nat.lt_add_one, Nat.zero_lt_succ, Value.int.injEq, Value.ref.injEq, Value.long.injEq, exists_eq_left', exists_eq_left, Sum.inl.injEq, Sum.inr.injEq, l_0, l_1, l_2, l_3, l_4, l_5, l_6, l_7, l_8, l_9, l_10, l_12, l_20, l_23, l_24, l_25, l_32, l_48, l_60, l_100, l_200, l_255, l_900, n32_add, n32_mul, n32_inc, neg1, neg2, l_11, l_50, l_54, l_58, l_59, l_649]
      refine (tail M (aAc A).length (aAc A) (by omega) (Fr.refl _ _) h.nac (fun _ _ => rfl) rfl (fun i lo hi => h.ac i lo hi)).mono ?_
      rintro r e m' ⟨rfl, rfl, g1, g2, g3, g4⟩
      have T2 := h.T.fr g1
      simp (disch := omega) only [w_eK, w_eI, w_eL, w_eR, w_eT, w_b1, w_b2, w_b0, w_b0L, w_gI, w_gL, w_gN, w_gR, w_aI, w_aL, w_aR, w_aLen, w_tern, w_and, w_or, w_vN, vI, vJ, vA, vS, w_cFv, w_cFs, w_toI, w_toL, w_toV, w_nO, w_nA, eZ, cNot, s_skip, s_brk, s_cnt, s_retV, s_seq, s_if, s_set1, s_setL, s_inc, s_putI, s_putZ, s_putL, s_putR, s_upI, s_AI, s_AL, s_AR, s_UA, s_exp, s_ret, s_retZ, s_scope, s_unBrk, s_sw, s_sup, sSetI, sSetR, sRetI, sRetL, f_of, argE_n, argE_i, argE_r, argE_l, argE_a, sto_0, sto_s, sto_n0, sto_ns, isL_i, isL_r, isL_n, isL_a, isL_l, isL_0, rcv_r, rcv_a, List.getElem?_cons_zero, List.getElem?_cons_succ, List.getElem?_nil, List.set_cons_zero, List.set_cons_succ, List.take_succ_cons, List.take_zero, List.take_nil, List.length_cons, List.length_nil, List.nil_append, List.cons_append, Nat.reduceAdd, Nat.reduceSub, Nat.reduceLT, Nat.reduceEqDiff, Nat.reduceLeDiff, Nat.zero_add, Nat.lt_irrefl, Nat.succ_sub_one, and_true, true_and, and_false, false_and, not_false_eq_true, not_true_eq_false, Bool.false_eq_true, if_true, if_false, reduceIte, decide_true, decide_false, decide_eq_true_eq, Option.some.injEq, and_self, Nat.add_one_sub_one, Nat.lt_add_one, Nat.zero_lt_succ, Value.int.injEq, Value.ref.injEq, Value.long.injEq, exists_eq_left', exists_eq_left, Sum.inl.injEq, Sum.inr.injEq, l_0, l_1, l_2, l_3, l_4, l_5, l_6, l_7, l_8, l_9, l_10, l_12, l_20, l_23, l_24, l_25, l_32, l_48, l_60, l_100, l_200, l_255, l_900, n32_add, n32_mul, n32_inc, neg1, neg2, l_11, l_50, l_54, l_58, l_59, l_649, T2.t, g2]
      refine ⟨g1.pI _ _ (Or.inl rfl), ?_⟩
      rw [kl]; exact fin m' (aAc A) (by omega) g1 g3 g4
  obtain ⟨v, m, h1, rfl, h2, h3⟩ := key
  exact ⟨m, h1, h2, h3⟩
end
