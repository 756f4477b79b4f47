/-! WAYS in the class -/
def TF (B : Nat) (M m : qM) : Prop := m.1 = M.1 ∧ tg m = tg M ∧ ∀ a, ¬ (B + 57 ≤ a ∧ a ≤ B + 60) → vr m a = vr M a ∧ vi m a = vi M a ∧ vl m a = vl M a
theorem TF.refl (B : Nat) (M : qM) : TF B M M := ⟨rfl, rfl, fun _ _ => ⟨rfl, rfl, rfl⟩⟩
theorem TF.trans {B : Nat} {M M1 M2 : qM} (h : TF B M M1) (g : TF B M1 M2) : TF B M M2 := ⟨g.1.trans h.1, g.2.1.trans h.2.1, fun a ha => ⟨(g.2.2 a ha).1.trans (h.2.2 a ha).1, (g.2.2 a ha).2.1.trans (h.2.2 a ha).2.1, (g.2.2 a ha).2.2.trans (h.2.2 a ha).2.2⟩⟩
theorem Fr.tf {B : Nat} {S : Nat → Prop} {M m : qM} (f : Fr S M m) (h : ∀ a, S a → B + 57 ≤ a ∧ a ≤ B + 60) : TF B M m := ⟨f.1, f.2.1, fun a ha => ⟨by rw [f.vr], funext fun j => f.vi (fun z => ha (h a z)) j, funext fun j => f.vl (fun z => ha (h a z)) j⟩⟩
theorem TF.pl {B P : Nat} {M m : qM} {p : Pl} (f : TF B M m) (h : PlanAt M P p) (hd : P + 12 < B + 45 ∨ B + 64 < P) : PlanAt m P p := by
  have er : vr m P = vr M P := (f.2.2 P (by omega)).1
  have e : ∀ i, i ≤ 12 → vi m (P + i) = vi M (P + i) := fun i hi => (f.2.2 (P + i) (by omega)).2.1
  have e0 : vi m P = vi M P := e 0 (by omega)
  refine ⟨?_, ?_, h.O⟩
  · have := h.T
    unfold PlanT at this ⊢
    rw [f.2.1, er]; exact this
  · have := h.V
    unfold PlanV at this ⊢
    simp only [e0, e 1 (by decide), e 2 (by decide), e 3 (by decide), e 4 (by decide), e 5 (by decide), e 6 (by decide), e 7 (by decide), e 8 (by decide), e 9 (by decide), e 10 (by decide), e 11 (by decide), e 12 (by decide)]
    exact this
theorem TF.lo {B L K : Nat} {M m : qM} {lo : Lo} (f : TF B M m) (h : LoomAt M L K lo) (hd : L + 4 < B + 45 ∨ B + 64 < L) : LoomAt m L K lo := by
  have er : vr m L = vr M L := (f.2.2 L (by omega)).1
  have e : ∀ i, i ≤ 4 → vi m (L + i) = vi M (L + i) := fun i hi => (f.2.2 (L + i) (by omega)).2.1
  have e0 : vi m L = vi M L := e 0 (by omega)
  refine ⟨?_, ?_, h.O⟩
  · have := h.T
    unfold LoomT at this ⊢
    rw [f.2.1, er]; exact this
  · have := h.V
    unfold LoomV at this ⊢
    simp only [e0, e 1 (by decide), e 2 (by decide), e 3 (by decide), e 4 (by decide)]
    exact this
def TY (M : qM) (B cu lg : Nat) : Prop := (tg M (B + 57) = (7, 3)) ∧ (vr M (B + 57) 0 = some cu) ∧ (vr M (B + 57) 1 = some lg) ∧ (vr M (B + 57) 2 = some (B + 60)) ∧ (tg M cu = (21, 800)) ∧ (tg M lg = (21, 800)) ∧ (tg M (B + 60) = (21, 400)) ∧ ((cu = B + 58 ∧ lg = B + 59) ∨ (cu = B + 59 ∧ lg = B + 58))
theorem TY.t {M : qM} {B cu lg : Nat} (h : TY M B cu lg) : tg M (B + 57) = (7, 3) := h.1
theorem TY.y0 {M : qM} {B cu lg : Nat} (h : TY M B cu lg) : vr M (B + 57) 0 = some cu := h.2.1
theorem TY.y1 {M : qM} {B cu lg : Nat} (h : TY M B cu lg) : vr M (B + 57) 1 = some lg := h.2.2.1
theorem TY.y2 {M : qM} {B cu lg : Nat} (h : TY M B cu lg) : vr M (B + 57) 2 = some (B + 60) := h.2.2.2.1
theorem TY.tc {M : qM} {B cu lg : Nat} (h : TY M B cu lg) : tg M cu = (21, 800) := h.2.2.2.2.1
theorem TY.tl {M : qM} {B cu lg : Nat} (h : TY M B cu lg) : tg M lg = (21, 800) := h.2.2.2.2.2.1
theorem TY.tb {M : qM} {B cu lg : Nat} (h : TY M B cu lg) : tg M (B + 60) = (21, 400) := h.2.2.2.2.2.2.1
theorem TY.d {M : qM} {B cu lg : Nat} (h : TY M B cu lg) : (cu = B + 58 ∧ lg = B + 59) ∨ (cu = B + 59 ∧ lg = B + 58) := h.2.2.2.2.2.2.2
theorem TY.fr {S : Nat → Prop} {M m : qM} {B cu lg : Nat} (h : TY M B cu lg) (f : Fr S M m) : TY m B cu lg := by
  unfold TY at h ⊢
  rw [f.tg, f.vr]; exact h
def LT8 (M : qM) (a K : Nat) (T : Nat → Nat → Nat) : Prop := ∀ r j, r < K → j < 100 → vl M a (j * 8 + r) = sv (T r j)
def BL (M : qM) (B K : Nat) (g : Nat → Nat → Nat → Nat) : Prop := ∀ s n r, s < 2 → n ≤ 24 → r < K → vl M (B + 60) ((s * 25 + n) * 8 + r) = sv (g s n r)
theorem LT8.c {M : qM} {a K : Nat} {T T' : Nat → Nat → Nat} (h : LT8 M a K T) (e : ∀ r j, r < K → j < 100 → T r j = T' r j) : LT8 M a K T' := fun r j h1 h2 => by rw [h r j h1 h2, e r j h1 h2]
theorem BL.c {M : qM} {B K : Nat} {g g' : Nat → Nat → Nat → Nat} (h : BL M B K g) (e : ∀ s n r, s < 2 → n ≤ 24 → r < K → g s n r = g' s n r) : BL M B K g' := fun s n r h1 h2 h3 => by rw [h s n r h1 h2 h3, e s n r h1 h2 h3]
theorem LT8.fr {M m : qM} {a K : Nat} {T : Nat → Nat → Nat} {S : Nat → Prop} (h : LT8 M a K T) (f : Fr S M m) (hs : ¬ S a) : LT8 m a K T := fun r j h1 h2 => by rw [f.vl hs]; exact h r j h1 h2
theorem BL.fr {M m : qM} {B K : Nat} {g : Nat → Nat → Nat → Nat} {S : Nat → Prop} (h : BL M B K g) (f : Fr S M m) (hs : ¬ S (B + 60)) : BL m B K g := fun s n r h1 h2 h3 => by rw [f.vl hs]; exact h s n r h1 h2 h3
theorem q_slot (s n r : Nat) (M : qM) : f_X6_slot [.int (n32 s), .int (n32 n), .int (n32 r)] M = some (some (.int (n32 ((s * 25 + n) * 8 + r))), M) := by
  apply h_eq
  delta f_X6_slot b_X6_slot
  simp only [hR_d, hT_d, hI_t, hI_f, hVI_s, hVL_s, hVR_s, hVT_s, hVV_s, hO_s, hB_0, hB_1, hB_2, hB_r, hU_0, hU_1, hU_2, hU_r, hX_r, hL_0, hL_1, hL_2, hL_r, hC_s, h_k0, h_k1, h_k2, h_k3, h_k4, h_k5, h_k6, h_k7, h_k8, h_k9, h_k10, h_k11, h_k12, h_k14, h_k16, h_k18, h_k20, h_k23, h_k24, h_k25, h_k32, h_k44, h_k48, h_k50, h_k54, h_k57, h_k58, h_k59, h_k60, h_k63, h_k97, h_k100, h_k122, h_k177, h_k255, h_k400, h_k450, h_k625, h_k649, h_k708, h_k800, h_k900, h_k2500, h_k22500, h_k45000, h_kn1, h_kn2, h_kJ, h_kU, h_eI, h_eL, h_eR, h_eT, h_b1, h_eZ, h_not, h_b2, h_b0, h_b0L, h_gI, h_gL, h_gN, h_gR, h_aI, h_aL, h_aR, h_aLen, h_tern, h_and, h_or, h_vN, h_vI, h_vJ, h_vA, h_cFv, h_cFs, h_toI, h_toL, h_toV, h_nO, h_nA, g_skip, g_brk, g_cnt, g_retV, g_seq, g_if, g_setI, g_setR, g_setL, g_inc, g_putI, g_putZ, g_putL, g_putR, g_upI, g_AI, g_AL, g_AR, g_UA, g_exp, g_retI, g_retL, g_retZ, g_scope, g_unBrk, g_sup, h_fn, argE_n, argE_i, argE_r, argE_l, argE_a, sto_0, sto_s, sto_n0, sto_ns, isL_i, isL_r, isL_n, isL_a, isL_l, isL_0, rcv_r, rcv_a, List.getElem?_cons_zero, List.getElem?_cons_succ, List.getElem?_nil, List.set_cons_zero, List.set_cons_succ, List.take_succ_cons, List.take_zero, List.take_nil, List.length_cons, List.length_nil, List.nil_append, List.cons_append, Nat.reduceAdd, Nat.reduceSub, Nat.reduceLT, Nat.reduceEqDiff, Nat.reduceLeDiff, Nat.zero_add, Nat.lt_irrefl, Nat.succ_sub_one, and_true, true_and, and_false, false_and, not_false_eq_true, not_true_eq_false, Bool.false_eq_true, Bool.not_true, Bool.not_false, Bool.not_eq_true', Bool.true_eq_false, decide_true, decide_false, decide_eq_true_eq, decide_eq_false_iff_not, Option.some.injEq, and_self, Nat.add_one_sub_one, Nat.lt_add_one, Nat.zero_lt_succ, Value.int.injEq, Value.ref.injEq, Value.long.injEq, exists_eq_left', exists_eq_left, Sum.inl.injEq, Sum.inr.injEq, i2z_b2i, n32_add, n32_mul, n32_inc]
theorem fo8 {f : Nat} (h : f < 8) : fo f = some f := by unfold fo; rw [if_neg (by omega)]
section
variable {M : qM} {B P L cu lg : Nat} {p : Pl} {lo : Lo}
theorem q_lengT (h : PlanAt M P p) (g : LoomAt M L (pK p) lo) (Y : TY M B cu lg) (hd : P + 12 < B + 45 ∨ B + 64 < P) (hL : L + 4 < B + 45 ∨ B + 64 < L) {s k f c : Nat} (hs : s < 2) (hk : k < 100) {y : Int32} (hy : ∀ i, bt y i = folO p s (fo f) i) {T : Nat → Nat → Nat} (hT : LT8 M lg (pK p) T) : ∃ M', f_X6_lengthen [.ref (B + 57), .ref P, .ref L, .int (n32 s), .int (n32 k), .int y, .long (sv c)] M = some (none, M') ∧ Fr (fun a => a = lg) M M' ∧ LT8 M' lg (pK p) (fun r j => T r j + cnI (stB p lo s f k r j) c) := by
  have hK := h.O.kinds
  have dl := Y.d
  have d10 : ¬ n32 10 = 0 := by decide
  have key : hF f_X6_lengthen [.ref (B + 57), .ref P, .ref L, .int (n32 s), .int (n32 k), .int y, .long (sv c)] M (fun v M' => v = none ∧ Fr (fun a => a = lg) M M' ∧ LT8 M' lg (pK p) (fun r j => T r j + cnI (stB p lo s f k r j) c)) () := by
    delta f_X6_lengthen b_X6_lengthen
    simp only [hR_d, hT_d, hI_t, hI_f, hVI_s, hVL_s, hVR_s, hVT_s, hVV_s, hO_s, hB_0, hB_1, hB_2, hB_r, hU_0, hU_1, hU_2, hU_r, hX_r, hL_0, hL_1, hL_2, hL_r, hC_s, h_k0, h_k1, h_k2, h_k3, h_k4, h_k5, h_k6, h_k7, h_k8, h_k9, h_k10, h_k11, h_k12, h_k14, h_k16, h_k18, h_k20, h_k23, h_k24, h_k25, h_k32, h_k44, h_k48, h_k50, h_k54, h_k57, h_k58, h_k59, h_k60, h_k63, h_k97, h_k100, h_k122, h_k177, h_k255, h_k400, h_k450, h_k625, h_k649, h_k708, h_k800, h_k900, h_k2500, h_k22500, h_k45000, h_kn1, h_kn2, h_kJ, h_kU, h_eI, h_eL, h_eR, h_eT, h_b1, h_eZ, h_not, h_b2, h_b0, h_b0L, h_gI, h_gL, h_gN, h_gR, h_aI, h_aL, h_aR, h_aLen, h_tern, h_and, h_or, h_vN, h_vI, h_vJ, h_vA, h_cFv, h_cFs, h_toI, h_toL, h_toV, h_nO, h_nA, g_skip, g_brk, g_cnt, g_retV, g_seq, g_if, g_setI, g_setR, g_setL, g_inc, g_putI, g_putZ, g_putL, g_putR, g_upI, g_AI, g_AL, g_AR, g_UA, g_exp, g_retI, g_retL, g_retZ, g_scope, g_unBrk, g_sup, h_fn, argE_n, argE_i, argE_r, argE_l, argE_a, sto_0, sto_s, sto_n0, sto_ns, isL_i, isL_r, isL_n, isL_a, isL_l, isL_0, rcv_r, rcv_a, List.getElem?_cons_zero, List.getElem?_cons_succ, List.getElem?_nil, List.set_cons_zero, List.set_cons_succ, List.take_succ_cons, List.take_zero, List.take_nil, List.length_cons, List.length_nil, List.nil_append, List.cons_append, Nat.reduceAdd, Nat.reduceSub, Nat.reduceLT, Nat.reduceEqDiff, Nat.reduceLeDiff, Nat.zero_add, Nat.lt_irrefl, Nat.succ_sub_one, and_true, true_and, and_false, false_and, not_false_eq_true, not_true_eq_false, Bool.false_eq_true, Bool.not_true, Bool.not_false, Bool.not_eq_true', Bool.true_eq_false, decide_true, decide_false, decide_eq_true_eq, decide_eq_false_iff_not, Option.some.injEq, and_self, Nat.add_one_sub_one, Nat.lt_add_one, Nat.zero_lt_succ, Value.int.injEq, Value.ref.injEq, Value.long.injEq, exists_eq_left', exists_eq_left, Sum.inl.injEq, Sum.inr.injEq, i2z_b2i, n32_add, n32_mul, n32_inc]
    refine h_up (fun q e m => e = [.ref (B + 57), .ref P, .ref L, .int (n32 s), .int (n32 k), .int y, .long (sv c), .null, .int (n32 q)] ∧ Fr (fun a => a = lg) M m ∧ LT8 m lg (pK p) (fun r j => T r j + cnI (decide (r < q)) (cnI (stB p lo s f k r j) c))) (pK p) ⟨rfl, Fr.refl _ _, hT.c (fun r j _ _ => by simp [cnI])⟩ ?_ ?_
    · rintro q e m hq ⟨rfl, F, J⟩
      have h' := h.fr F (fun a z1 z2 z3 => by omega)
      have g' := g.fr F (fun a z1 z2 z3 => by omega)
      have Y' := Y.fr F
      have t0 : f_X4_takesOf [.ref P, .int (n32 q), .int (n32 0)] m = some (some (.int (n32 (tkc p q 0))), m) := q_takesOf h' hq (by decide)
      have t1 : f_X4_takesOf [.ref P, .int (n32 q), .int (n32 1)] m = some (some (.int (n32 (tkc p q 1))), m) := q_takesOf h' hq (by decide)
      have l0 := tkc_le h.O hq 0
      have l1 := tkc_le h.O hq 1
      have s0 := g.O.st s 0 hs (by decide)
      have s1 := g.O.st s 1 hs (by decide)
      have skip : stB p lo s f k q ((k / 10 + tkc p q 0) * 10 + (k % 10 + tkc p q 1)) = false → LT8 m lg (pK p) (fun r j => T r j + cnI (decide (r < q + 1)) (cnI (stB p lo s f k r j) c)) := by
        intro z
        refine J.c fun r j hr hj => ?_
        by_cases e : r = q
        · subst e
          have : stB p lo s f k r j = false := by
            cases w : stB p lo s f k r j
            · rfl
            · unfold stB at w z
              simp only [Bool.and_eq_true, decide_eq_true_eq] at w
              obtain ⟨⟨⟨⟨w1, w2⟩, w3⟩, w4⟩, w5⟩ := w
              simp [w1, w2, w3, w4] at z
          simp [cnI, this]
        · by_cases e1 : r < q
          · simp [cnI, e1, show r < q + 1 by omega]
          · simp [cnI, e1, show ¬ r < q + 1 by omega]
      cases eb : folO p s (fo f) q
      · simp (disch := omega) only [hR_d, hT_d, hI_t, hI_f, hVI_s, hVL_s, hVR_s, hVT_s, hVV_s, hO_s, hB_0, hB_1, hB_2, hB_r, hU_0, hU_1, hU_2, hU_r, hX_r, hL_0, hL_1, hL_2, hL_r, hC_s, h_k0, h_k1, h_k2, h_k3, h_k4, h_k5, h_k6, h_k7, h_k8, h_k9, h_k10, h_k11, h_k12, h_k14, h_k16, h_k18, h_k20, h_k23, h_k24, h_k25, h_k32, h_k44, h_k48, h_k50, h_k54, h_k57, h_k58, h_k59, h_k60, h_k63, h_k97, h_k100, h_k122, h_k177, h_k255, h_k400, h_k450, h_k625, h_k649, h_k708, h_k800, h_k900, h_k2500, h_k22500, h_k45000, h_kn1, h_kn2, h_kJ, h_kU, h_eI, h_eL, h_eR, h_eT, h_b1, h_eZ, h_not, h_b2, h_b0, h_b0L, h_gI, h_gL, h_gN, h_gR, h_aI, h_aL, h_aR, h_aLen, h_tern, h_and, h_or, h_vN, h_vI, h_vJ, h_vA, h_cFv, h_cFs, h_toI, h_toL, h_toV, h_nO, h_nA, g_skip, g_brk, g_cnt, g_retV, g_seq, g_if, g_setI, g_setR, g_setL, g_inc, g_putI, g_putZ, g_putL, g_putR, g_upI, g_AI, g_AL, g_AR, g_UA, g_exp, g_retI, g_retL, g_retZ, g_scope, g_unBrk, g_sup, h_fn, argE_n, argE_i, argE_r, argE_l, argE_a, sto_0, sto_s, sto_n0, sto_ns, isL_i, isL_r, isL_n, isL_a, isL_l, isL_0, rcv_r, rcv_a, List.getElem?_cons_zero, List.getElem?_cons_succ, List.getElem?_nil, List.set_cons_zero, List.set_cons_succ, List.take_succ_cons, List.take_zero, List.take_nil, List.length_cons, List.length_nil, List.nil_append, List.cons_append, Nat.reduceAdd, Nat.reduceSub, Nat.reduceLT, Nat.reduceEqDiff, Nat.reduceLeDiff, Nat.zero_add, Nat.lt_irrefl, Nat.succ_sub_one, and_true, true_and, and_false, false_and, not_false_eq_true, not_true_eq_false, Bool.false_eq_true, Bool.not_true, Bool.not_false, Bool.not_eq_true', Bool.true_eq_false, decide_true, decide_false, decide_eq_true_eq, decide_eq_false_iff_not, Option.some.injEq, and_self, Nat.add_one_sub_one, Nat.lt_add_one, Nat.zero_lt_succ, Value.int.injEq, Value.ref.injEq, Value.long.injEq, exists_eq_left', exists_eq_left, Sum.inl.injEq, Sum.inr.injEq, i2z_b2i, n32_add, n32_mul, n32_inc, n_iEq, n_iNe, n_iLt, n_iLe, n_iGt, n_iGe, n_zEq, n_zLt, n_zLe, n_zGt, n_zGe, n_inb, n32_clamp, hq, h'.T.t, h'.V.kinds, h_of (q_hasBit _ (show q < 32 by omega) _), hy, eb]
        exact ⟨F, skip (by unfold stB; simp [eb])⟩
      · by_cases b0 : k / 10 + tkc p q 0 ≤ lS lo s 0
        · by_cases b1 : k % 10 + tkc p q 1 ≤ lS lo s 1
          · have jl : (k / 10 + tkc p q 0) * 10 + (k % 10 + tkc p q 1) < 100 := by omega
            have ov : vl m lg (((k / 10 + tkc p q 0) * 10 + (k % 10 + tkc p q 1)) * 8 + q) = sv (T q ((k / 10 + tkc p q 0) * 10 + (k % 10 + tkc p q 1))) := by
              rw [J q _ hq jl]
              congr 1
              simp [cnI]
            simp (disch := omega) only [hR_d, hT_d, hI_t, hI_f, hVI_s, hVL_s, hVR_s, hVT_s, hVV_s, hO_s, hB_0, hB_1, hB_2, hB_r, hU_0, hU_1, hU_2, hU_r, hX_r, hL_0, hL_1, hL_2, hL_r, hC_s, h_k0, h_k1, h_k2, h_k3, h_k4, h_k5, h_k6, h_k7, h_k8, h_k9, h_k10, h_k11, h_k12, h_k14, h_k16, h_k18, h_k20, h_k23, h_k24, h_k25, h_k32, h_k44, h_k48, h_k50, h_k54, h_k57, h_k58, h_k59, h_k60, h_k63, h_k97, h_k100, h_k122, h_k177, h_k255, h_k400, h_k450, h_k625, h_k649, h_k708, h_k800, h_k900, h_k2500, h_k22500, h_k45000, h_kn1, h_kn2, h_kJ, h_kU, h_eI, h_eL, h_eR, h_eT, h_b1, h_eZ, h_not, h_b2, h_b0, h_b0L, h_gI, h_gL, h_gN, h_gR, h_aI, h_aL, h_aR, h_aLen, h_tern, h_and, h_or, h_vN, h_vI, h_vJ, h_vA, h_cFv, h_cFs, h_toI, h_toL, h_toV, h_nO, h_nA, g_skip, g_brk, g_cnt, g_retV, g_seq, g_if, g_setI, g_setR, g_setL, g_inc, g_putI, g_putZ, g_putL, g_putR, g_upI, g_AI, g_AL, g_AR, g_UA, g_exp, g_retI, g_retL, g_retZ, g_scope, g_unBrk, g_sup, h_fn, argE_n, argE_i, argE_r, argE_l, argE_a, sto_0, sto_s, sto_n0, sto_ns, isL_i, isL_r, isL_n, isL_a, isL_l, isL_0, rcv_r, rcv_a, List.getElem?_cons_zero, List.getElem?_cons_succ, List.getElem?_nil, List.set_cons_zero, List.set_cons_succ, List.take_succ_cons, List.take_zero, List.take_nil, List.length_cons, List.length_nil, List.nil_append, List.cons_append, Nat.reduceAdd, Nat.reduceSub, Nat.reduceLT, Nat.reduceEqDiff, Nat.reduceLeDiff, Nat.zero_add, Nat.lt_irrefl, Nat.succ_sub_one, and_true, true_and, and_false, false_and, not_false_eq_true, not_true_eq_false, Bool.false_eq_true, Bool.not_true, Bool.not_false, Bool.not_eq_true', Bool.true_eq_false, decide_true, decide_false, decide_eq_true_eq, decide_eq_false_iff_not, Option.some.injEq, and_self, Nat.add_one_sub_one, Nat.lt_add_one, Nat.zero_lt_succ, Value.int.injEq, Value.ref.injEq, Value.long.injEq, exists_eq_left', exists_eq_left, Sum.inl.injEq, Sum.inr.injEq, i2z_b2i, n32_add, n32_mul, n32_inc, n_iEq, n_iNe, n_iLt, n_iLe, n_iGt, n_iGe, n_zEq, n_zLt, n_zLe, n_zGt, n_zGe, n_inb, n32_clamp, hq, h'.T.t, h'.V.kinds, h_of (q_hasBit _ (show q < 32 by omega) _), hy, eb, dv10 ⟨k, hk⟩, rm10 ⟨k, hk⟩, d10, ne_eq, h_of t0, h_of t1, g'.T.t, h_of (q_storeOf g' hs (show 0 < 2 by decide)), h_of (q_storeOf g' hs (show 1 < 2 by decide)), b0, b1, Y'.t, Y'.y1, Y'.tl, ov, h_of (q_plus _ _ _)]
            refine ⟨by omega, by omega, F.pL _ _ rfl, fun r j hr hj => ?_⟩
            rw [vl_pL]
            by_cases e : lg = lg ∧ j * 8 + r = ((k / 10 + tkc p q 0) * 10 + (k % 10 + tkc p q 1)) * 8 + q
            · have er : r = q := by omega
              have ej : j = (k / 10 + tkc p q 0) * 10 + (k % 10 + tkc p q 1) := by omega
              rw [if_pos e]
              subst er
              have st : stB p lo s f k r j = true := by unfold stB; simp [hq, eb, b0, b1, ej]
              rw [← ej]
              simp [cnI, st]
            · rw [if_neg e, J r j hr hj]
              congr 1
              by_cases er : r = q
              · subst er
                have st : stB p lo s f k r j = false := by
                  unfold stB
                  have : ¬ j = (k / 10 + tkc p r 0) * 10 + (k % 10 + tkc p r 1) := fun z => e ⟨rfl, by rw [z]⟩
                  simp [this]
                simp [cnI, st]
              · by_cases e1 : r < q
                · simp [cnI, e1, show r < q + 1 by omega]
                · simp [cnI, e1, show ¬ r < q + 1 by omega]
          · simp (disch := omega) only [hR_d, hT_d, hI_t, hI_f, hVI_s, hVL_s, hVR_s, hVT_s, hVV_s, hO_s, hB_0, hB_1, hB_2, hB_r, hU_0, hU_1, hU_2, hU_r, hX_r, hL_0, hL_1, hL_2, hL_r, hC_s, h_k0, h_k1, h_k2, h_k3, h_k4, h_k5, h_k6, h_k7, h_k8, h_k9, h_k10, h_k11, h_k12, h_k14, h_k16, h_k18, h_k20, h_k23, h_k24, h_k25, h_k32, h_k44, h_k48, h_k50, h_k54, h_k57, h_k58, h_k59, h_k60, h_k63, h_k97, h_k100, h_k122, h_k177, h_k255, h_k400, h_k450, h_k625, h_k649, h_k708, h_k800, h_k900, h_k2500, h_k22500, h_k45000, h_kn1, h_kn2, h_kJ, h_kU, h_eI, h_eL, h_eR, h_eT, h_b1, h_eZ, h_not, h_b2, h_b0, h_b0L, h_gI, h_gL, h_gN, h_gR, h_aI, h_aL, h_aR, h_aLen, h_tern, h_and, h_or, h_vN, h_vI, h_vJ, h_vA, h_cFv, h_cFs, h_toI, h_toL, h_toV, h_nO, h_nA, g_skip, g_brk, g_cnt, g_retV, g_seq, g_if, g_setI, g_setR, g_setL, g_inc, g_putI, g_putZ, g_putL, g_putR, g_upI, g_AI, g_AL, g_AR, g_UA, g_exp, g_retI, g_retL, g_retZ, g_scope, g_unBrk, g_sup, h_fn, argE_n, argE_i, argE_r, argE_l, argE_a, sto_0, sto_s, sto_n0, sto_ns, isL_i, isL_r, isL_n, isL_a, isL_l, isL_0, rcv_r, rcv_a, List.getElem?_cons_zero, List.getElem?_cons_succ, List.getElem?_nil, List.set_cons_zero, List.set_cons_succ, List.take_succ_cons, List.take_zero, List.take_nil, List.length_cons, List.length_nil, List.nil_append, List.cons_append, Nat.reduceAdd, Nat.reduceSub, Nat.reduceLT, Nat.reduceEqDiff, Nat.reduceLeDiff, Nat.zero_add, Nat.lt_irrefl, Nat.succ_sub_one, and_true, true_and, and_false, false_and, not_false_eq_true, not_true_eq_false, Bool.false_eq_true, Bool.not_true, Bool.not_false, Bool.not_eq_true', Bool.true_eq_false, decide_true, decide_false, decide_eq_true_eq, decide_eq_false_iff_not, Option.some.injEq, and_self, Nat.add_one_sub_one, Nat.lt_add_one, Nat.zero_lt_succ, Value.int.injEq, Value.ref.injEq, Value.long.injEq, exists_eq_left', exists_eq_left, Sum.inl.injEq, Sum.inr.injEq, i2z_b2i, n32_add, n32_mul, n32_inc, n_iEq, n_iNe, n_iLt, n_iLe, n_iGt, n_iGe, n_zEq, n_zLt, n_zLe, n_zGt, n_zGe, n_inb, n32_clamp, hq, h'.T.t, h'.V.kinds, h_of (q_hasBit _ (show q < 32 by omega) _), hy, eb, dv10 ⟨k, hk⟩, rm10 ⟨k, hk⟩, d10, ne_eq, h_of t0, h_of t1, g'.T.t, h_of (q_storeOf g' hs (show 0 < 2 by decide)), h_of (q_storeOf g' hs (show 1 < 2 by decide)), b0, b1]
            exact ⟨F, skip (by unfold stB; simp [b1])⟩
        · simp (disch := omega) only [hR_d, hT_d, hI_t, hI_f, hVI_s, hVL_s, hVR_s, hVT_s, hVV_s, hO_s, hB_0, hB_1, hB_2, hB_r, hU_0, hU_1, hU_2, hU_r, hX_r, hL_0, hL_1, hL_2, hL_r, hC_s, h_k0, h_k1, h_k2, h_k3, h_k4, h_k5, h_k6, h_k7, h_k8, h_k9, h_k10, h_k11, h_k12, h_k14, h_k16, h_k18, h_k20, h_k23, h_k24, h_k25, h_k32, h_k44, h_k48, h_k50, h_k54, h_k57, h_k58, h_k59, h_k60, h_k63, h_k97, h_k100, h_k122, h_k177, h_k255, h_k400, h_k450, h_k625, h_k649, h_k708, h_k800, h_k900, h_k2500, h_k22500, h_k45000, h_kn1, h_kn2, h_kJ, h_kU, h_eI, h_eL, h_eR, h_eT, h_b1, h_eZ, h_not, h_b2, h_b0, h_b0L, h_gI, h_gL, h_gN, h_gR, h_aI, h_aL, h_aR, h_aLen, h_tern, h_and, h_or, h_vN, h_vI, h_vJ, h_vA, h_cFv, h_cFs, h_toI, h_toL, h_toV, h_nO, h_nA, g_skip, g_brk, g_cnt, g_retV, g_seq, g_if, g_setI, g_setR, g_setL, g_inc, g_putI, g_putZ, g_putL, g_putR, g_upI, g_AI, g_AL, g_AR, g_UA, g_exp, g_retI, g_retL, g_retZ, g_scope, g_unBrk, g_sup, h_fn, argE_n, argE_i, argE_r, argE_l, argE_a, sto_0, sto_s, sto_n0, sto_ns, isL_i, isL_r, isL_n, isL_a, isL_l, isL_0, rcv_r, rcv_a, List.getElem?_cons_zero, List.getElem?_cons_succ, List.getElem?_nil, List.set_cons_zero, List.set_cons_succ, List.take_succ_cons, List.take_zero, List.take_nil, List.length_cons, List.length_nil, List.nil_append, List.cons_append, Nat.reduceAdd, Nat.reduceSub, Nat.reduceLT, Nat.reduceEqDiff, Nat.reduceLeDiff, Nat.zero_add, Nat.lt_irrefl, Nat.succ_sub_one, and_true, true_and, and_false, false_and, not_false_eq_true, not_true_eq_false, Bool.false_eq_true, Bool.not_true, Bool.not_false, Bool.not_eq_true', Bool.true_eq_false, decide_true, decide_false, decide_eq_true_eq, decide_eq_false_iff_not, Option.some.injEq, and_self, Nat.add_one_sub_one, Nat.lt_add_one, Nat.zero_lt_succ, Value.int.injEq, Value.ref.injEq, Value.long.injEq, exists_eq_left', exists_eq_left, Sum.inl.injEq, Sum.inr.injEq, i2z_b2i, n32_add, n32_mul, n32_inc, n_iEq, n_iNe, n_iLt, n_iLe, n_iGt, n_iGe, n_zEq, n_zLt, n_zLe, n_zGt, n_zGe, n_inb, n32_clamp, hq, h'.T.t, h'.V.kinds, h_of (q_hasBit _ (show q < 32 by omega) _), hy, eb, dv10 ⟨k, hk⟩, rm10 ⟨k, hk⟩, d10, ne_eq, h_of t0, h_of t1, g'.T.t, h_of (q_storeOf g' hs (show 0 < 2 by decide)), b0]
          exact ⟨F, skip (by unfold stB; simp [b0])⟩
    · rintro e m ⟨rfl, F, J⟩
      have h' := h.fr F (fun a z1 z2 z3 => by omega)
      simp (disch := omega) only [hR_d, hT_d, hI_t, hI_f, hVI_s, hVL_s, hVR_s, hVT_s, hVV_s, hO_s, hB_0, hB_1, hB_2, hB_r, hU_0, hU_1, hU_2, hU_r, hX_r, hL_0, hL_1, hL_2, hL_r, hC_s, h_k0, h_k1, h_k2, h_k3, h_k4, h_k5, h_k6, h_k7, h_k8, h_k9, h_k10, h_k11, h_k12, h_k14, h_k16, h_k18, h_k20, h_k23, h_k24, h_k25, h_k32, h_k44, h_k48, h_k50, h_k54, h_k57, h_k58, h_k59, h_k60, h_k63, h_k97, h_k100, h_k122, h_k177, h_k255, h_k400, h_k450, h_k625, h_k649, h_k708, h_k800, h_k900, h_k2500, h_k22500, h_k45000, h_kn1, h_kn2, h_kJ, h_kU, h_eI, h_eL, h_eR, h_eT, h_b1, h_eZ, h_not, h_b2, h_b0, h_b0L, h_gI, h_gL, h_gN, h_gR, h_aI, h_aL, h_aR, h_aLen, h_tern, h_and, h_or, h_vN, h_vI, h_vJ, h_vA, h_cFv, h_cFs, h_toI, h_toL, h_toV, h_nO, h_nA, g_skip, g_brk, g_cnt, g_retV, g_seq, g_if, g_setI, g_setR, g_setL, g_inc, g_putI, g_putZ, g_putL, g_putR, g_upI, g_AI, g_AL, g_AR, g_UA, g_exp, g_retI, g_retL, g_retZ, g_scope, g_unBrk, g_sup, h_fn, argE_n, argE_i, argE_r, argE_l, argE_a, sto_0, sto_s, sto_n0, sto_ns, isL_i, isL_r, isL_n, isL_a, isL_l, isL_0, rcv_r, rcv_a, List.getElem?_cons_zero, List.getElem?_cons_succ, List.getElem?_nil, List.set_cons_zero, List.set_cons_succ, List.take_succ_cons, List.take_zero, List.take_nil, List.length_cons, List.length_nil, List.nil_append, List.cons_append, Nat.reduceAdd, Nat.reduceSub, Nat.reduceLT, Nat.reduceEqDiff, Nat.reduceLeDiff, Nat.zero_add, Nat.lt_irrefl, Nat.succ_sub_one, and_true, true_and, and_false, false_and, not_false_eq_true, not_true_eq_false, Bool.false_eq_true, Bool.not_true, Bool.not_false, Bool.not_eq_true', Bool.true_eq_false, decide_true, decide_false, decide_eq_true_eq, decide_eq_false_iff_not, Option.some.injEq, and_self, Nat.add_one_sub_one, Nat.lt_add_one, Nat.zero_lt_succ, Value.int.injEq, Value.ref.injEq, Value.long.injEq, exists_eq_left', exists_eq_left, Sum.inl.injEq, Sum.inr.injEq, i2z_b2i, n32_add, n32_mul, n32_inc, n_iEq, n_iNe, n_iLt, n_iLe, n_iGt, n_iGe, n_zEq, n_zLt, n_zLe, n_zGt, n_zGe, n_inb, n32_clamp, h'.T.t, h'.V.kinds]
      exact ⟨F, J.c fun r j hr hj => by simp [cnI, hr]⟩
  obtain ⟨v, m, h1, rfl, h2⟩ := h_ex key
  exact ⟨m, h1, h2⟩
def PS (p : Pl) (lo : Lo) (s n u q r j : Nat) : Nat := sumN u (fun k => sumN (pK p) fun f => cnI (stB p lo s f k r j) (WN p lo s n f k)) + sumN q (fun f => cnI (stB p lo s f u r j) (WN p lo s n f u))
theorem PS_end (O : PlOK p) (n s r j : Nat) (hn : 1 ≤ n) : PS p lo s n 100 0 r j = WN p lo s (n + 1) r j := by
  have hK := O.kinds
  show sumN 100 _ + 0 = sumN 9 _
  rw [Nat.add_zero, sumN_comm]
  refine (sumN_cut (by omega) fun i h1 h2 => sumN_0 fun k _ => ?_).symm
  have : WN p lo s n i k = 0 := by
    refine Classical.byContradiction fun z => ?_
    obtain ⟨m, rfl⟩ : ∃ m, n = m + 1 := ⟨n - 1, by omega⟩
    have := WN_lt z
    omega
  rw [this]
  unfold cnI; split <;> rfl
theorem q_chains (h : PlanAt M P p) (g : LoomAt M L (pK p) lo) (Y : TY M B cu lg) (hd : P + 12 < B + 45 ∨ B + 64 < P) (hL : L + 4 < B + 45 ∨ B + 64 < L) {s n : Nat} (hs : s < 2) (hn : 1 ≤ n) (h24 : n ≤ 24) {bl : Nat → Nat → Nat → Nat} (hC : LT8 M cu (pK p) (WN p lo s n)) (hZ : LT8 M lg (pK p) (fun _ _ => 0)) (hB : BL M B (pK p) bl) (b0 : ∀ r, bl s n r = 0) : ∃ b M', f_X6_countChains [.ref (B + 57), .ref P, .ref L, .int (n32 s), .int (n32 n)] M = some (some (.int (b2i b)), M') ∧ Fr (fun a => a = lg ∨ a = B + 60) M M' ∧ LT8 M' lg (pK p) (WN p lo s (n + 1)) ∧ BL M' B (pK p) (fun t m r => if t = s ∧ m = n then SN p lo s n r else bl t m r) ∧ (b = false → ∀ r j, r < 9 → j < 100 → WN p lo s n r j = 0) := by
  have hK := h.O.kinds
  have dl := Y.d
  have key : hF f_X6_countChains [.ref (B + 57), .ref P, .ref L, .int (n32 s), .int (n32 n)] M (fun v M' => ∃ b, v = some (Value.int (b2i b)) ∧ Fr (fun a => a = lg ∨ a = B + 60) M M' ∧ LT8 M' lg (pK p) (WN p lo s (n + 1)) ∧ BL M' B (pK p) (fun t m r => if t = s ∧ m = n then SN p lo s n r else bl t m r) ∧ (b = false → ∀ r j, r < 9 → j < 100 → WN p lo s n r j = 0)) () := by
    delta f_X6_countChains b_X6_countChains
    simp only [hR_d, hT_d, hI_t, hI_f, hVI_s, hVL_s, hVR_s, hVT_s, hVV_s, hO_s, hB_0, hB_1, hB_2, hB_r, hU_0, hU_1, hU_2, hU_r, hX_r, hL_0, hL_1, hL_2, hL_r, hC_s, h_k0, h_k1, h_k2, h_k3, h_k4, h_k5, h_k6, h_k7, h_k8, h_k9, h_k10, h_k11, h_k12, h_k14, h_k16, h_k18, h_k20, h_k23, h_k24, h_k25, h_k32, h_k44, h_k48, h_k50, h_k54, h_k57, h_k58, h_k59, h_k60, h_k63, h_k97, h_k100, h_k122, h_k177, h_k255, h_k400, h_k450, h_k625, h_k649, h_k708, h_k800, h_k900, h_k2500, h_k22500, h_k45000, h_kn1, h_kn2, h_kJ, h_kU, h_eI, h_eL, h_eR, h_eT, h_b1, h_eZ, h_not, h_b2, h_b0, h_b0L, h_gI, h_gL, h_gN, h_gR, h_aI, h_aL, h_aR, h_aLen, h_tern, h_and, h_or, h_vN, h_vI, h_vJ, h_vA, h_cFv, h_cFs, h_toI, h_toL, h_toV, h_nO, h_nA, g_skip, g_brk, g_cnt, g_retV, g_seq, g_if, g_setI, g_setR, g_setL, g_inc, g_putI, g_putZ, g_putL, g_putR, g_upI, g_AI, g_AL, g_AR, g_UA, g_exp, g_retI, g_retL, g_retZ, g_scope, g_unBrk, g_sup, h_fn, argE_n, argE_i, argE_r, argE_l, argE_a, sto_0, sto_s, sto_n0, sto_ns, isL_i, isL_r, isL_n, isL_a, isL_l, isL_0, rcv_r, rcv_a, List.getElem?_cons_zero, List.getElem?_cons_succ, List.getElem?_nil, List.set_cons_zero, List.set_cons_succ, List.take_succ_cons, List.take_zero, List.take_nil, List.length_cons, List.length_nil, List.nil_append, List.cons_append, Nat.reduceAdd, Nat.reduceSub, Nat.reduceLT, Nat.reduceEqDiff, Nat.reduceLeDiff, Nat.zero_add, Nat.lt_irrefl, Nat.succ_sub_one, and_true, true_and, and_false, false_and, not_false_eq_true, not_true_eq_false, Bool.false_eq_true, Bool.not_true, Bool.not_false, Bool.not_eq_true', Bool.true_eq_false, decide_true, decide_false, decide_eq_true_eq, decide_eq_false_iff_not, Option.some.injEq, and_self, Nat.add_one_sub_one, Nat.lt_add_one, Nat.zero_lt_succ, Value.int.injEq, Value.ref.injEq, Value.long.injEq, exists_eq_left', exists_eq_left, Sum.inl.injEq, Sum.inr.injEq, i2z_b2i, n32_add, n32_mul, n32_inc]
    refine h_up (fun u e m => ∃ b, e = [.ref (B + 57), .ref P, .ref L, .int (n32 s), .int (n32 n), .int (b2i b), .int (n32 u)] ∧ Fr (fun a => a = lg ∨ a = B + 60) M m ∧ LT8 m lg (pK p) (PS p lo s n u 0) ∧ BL m B (pK p) (fun t m r => if t = s ∧ m = n then sumN u (WN p lo s n r) else bl t m r) ∧ (b = false → ∀ r j, r < pK p → j < u → WN p lo s n r j = 0)) 100 ⟨false, rfl, Fr.refl _ _, hZ.c (fun _ _ _ _ => rfl), hB.c (fun t m r _ _ _ => ?_), fun _ r j _ hj => by omega⟩ ?_ ?_
    · by_cases e : t = s ∧ m = n
      · rw [if_pos e, e.1, e.2]; exact b0 r
      · rw [if_neg e]
    · rintro u e m hu ⟨b, rfl, F, J1, J2, J3⟩
      simp (disch := omega) only [hR_d, hT_d, hI_t, hI_f, hVI_s, hVL_s, hVR_s, hVT_s, hVV_s, hO_s, hB_0, hB_1, hB_2, hB_r, hU_0, hU_1, hU_2, hU_r, hX_r, hL_0, hL_1, hL_2, hL_r, hC_s, h_k0, h_k1, h_k2, h_k3, h_k4, h_k5, h_k6, h_k7, h_k8, h_k9, h_k10, h_k11, h_k12, h_k14, h_k16, h_k18, h_k20, h_k23, h_k24, h_k25, h_k32, h_k44, h_k48, h_k50, h_k54, h_k57, h_k58, h_k59, h_k60, h_k63, h_k97, h_k100, h_k122, h_k177, h_k255, h_k400, h_k450, h_k625, h_k649, h_k708, h_k800, h_k900, h_k2500, h_k22500, h_k45000, h_kn1, h_kn2, h_kJ, h_kU, h_eI, h_eL, h_eR, h_eT, h_b1, h_eZ, h_not, h_b2, h_b0, h_b0L, h_gI, h_gL, h_gN, h_gR, h_aI, h_aL, h_aR, h_aLen, h_tern, h_and, h_or, h_vN, h_vI, h_vJ, h_vA, h_cFv, h_cFs, h_toI, h_toL, h_toV, h_nO, h_nA, g_skip, g_brk, g_cnt, g_retV, g_seq, g_if, g_setI, g_setR, g_setL, g_inc, g_putI, g_putZ, g_putL, g_putR, g_upI, g_AI, g_AL, g_AR, g_UA, g_exp, g_retI, g_retL, g_retZ, g_scope, g_unBrk, g_sup, h_fn, argE_n, argE_i, argE_r, argE_l, argE_a, sto_0, sto_s, sto_n0, sto_ns, isL_i, isL_r, isL_n, isL_a, isL_l, isL_0, rcv_r, rcv_a, List.getElem?_cons_zero, List.getElem?_cons_succ, List.getElem?_nil, List.set_cons_zero, List.set_cons_succ, List.take_succ_cons, List.take_zero, List.take_nil, List.length_cons, List.length_nil, List.nil_append, List.cons_append, Nat.reduceAdd, Nat.reduceSub, Nat.reduceLT, Nat.reduceEqDiff, Nat.reduceLeDiff, Nat.zero_add, Nat.lt_irrefl, Nat.succ_sub_one, and_true, true_and, and_false, false_and, not_false_eq_true, not_true_eq_false, Bool.false_eq_true, Bool.not_true, Bool.not_false, Bool.not_eq_true', Bool.true_eq_false, decide_true, decide_false, decide_eq_true_eq, decide_eq_false_iff_not, Option.some.injEq, and_self, Nat.add_one_sub_one, Nat.lt_add_one, Nat.zero_lt_succ, Value.int.injEq, Value.ref.injEq, Value.long.injEq, exists_eq_left', exists_eq_left, Sum.inl.injEq, Sum.inr.injEq, i2z_b2i, n32_add, n32_mul, n32_inc, n_iEq, n_iNe, n_iLt, n_iLe, n_iGt, n_iGe, n_zEq, n_zLt, n_zLe, n_zGt, n_zGe, n_inb, n32_clamp, hu]
      refine h_up (fun q e m => ∃ b, e = [.ref (B + 57), .ref P, .ref L, .int (n32 s), .int (n32 n), .int (b2i b), .int (n32 u), .int (n32 q)] ∧ Fr (fun a => a = lg ∨ a = B + 60) M m ∧ LT8 m lg (pK p) (PS p lo s n u q) ∧ BL m B (pK p) (fun t m r => if t = s ∧ m = n then sumN u (WN p lo s n r) + cnI (decide (r < q)) (WN p lo s n r u) else bl t m r) ∧ (b = false → (∀ r j, r < pK p → j < u → WN p lo s n r j = 0) ∧ ∀ r, r < q → WN p lo s n r u = 0)) (pK p) ⟨b, rfl, F, J1, J2.c (fun t m r _ _ _ => by simp [cnI]), fun z => ⟨J3 z, fun r hr => by omega⟩⟩ ?_ ?_
      · rintro q e m hq ⟨b, rfl, F, J1, J2, J3⟩
        have h' := h.fr F (fun a z1 z2 z3 => by omega)
        have g' := g.fr F (fun a z1 z2 z3 => by omega)
        have Y' := Y.fr F
        have cv : vl m cu (u * 8 + q) = sv (WN p lo s n q u) := (hC.fr F (by omega)) q u hq hu
        by_cases w0 : 0 < WN p lo s n q u
        · obtain ⟨y, ey, hy⟩ := q_behind h' hs hq
          have bv : vl m (B + 60) ((s * 25 + n) * 8 + q) = sv (sumN u (WN p lo s n q)) := by
            rw [J2 s n q hs h24 hq]
            congr 1
            simp [cnI]
          obtain ⟨m1, hm1⟩ : ∃ m1, m1 = pL m (B + 60) ((s * 25 + n) * 8 + q) (sv (sumN u (WN p lo s n q) + WN p lo s n q u)) := ⟨_, rfl⟩
          have F1 : Fr (fun a => a = B + 60) m m1 := by rw [hm1]; exact (Fr.refl (fun a => a = B + 60) m).pL _ _ rfl
          have h1 := h'.fr F1 (fun a z1 z2 z3 => by omega)
          have g1 := g'.fr F1 (fun a z1 z2 z3 => by omega)
          have Y1 := Y'.fr F1
          have ey1 : f_X4_behind [.ref P, .int (n32 s), .int (n32 q)] m1 = some (some (.int y), m1) ∨ True := Or.inr trivial
          obtain ⟨y1, ey1, hy1⟩ := q_behind h1 hs hq
          obtain ⟨m2, e2, F2, J4⟩ := q_lengT (f := q) (c := WN p lo s n q u) h1 g1 Y1 hd hL hs hu (y := y1) (fun i => by rw [hy1 i, fo8 (by omega)]; rfl) (J1.fr F1 (by omega))
          simp (disch := omega) only [hR_d, hT_d, hI_t, hI_f, hVI_s, hVL_s, hVR_s, hVT_s, hVV_s, hO_s, hB_0, hB_1, hB_2, hB_r, hU_0, hU_1, hU_2, hU_r, hX_r, hL_0, hL_1, hL_2, hL_r, hC_s, h_k0, h_k1, h_k2, h_k3, h_k4, h_k5, h_k6, h_k7, h_k8, h_k9, h_k10, h_k11, h_k12, h_k14, h_k16, h_k18, h_k20, h_k23, h_k24, h_k25, h_k32, h_k44, h_k48, h_k50, h_k54, h_k57, h_k58, h_k59, h_k60, h_k63, h_k97, h_k100, h_k122, h_k177, h_k255, h_k400, h_k450, h_k625, h_k649, h_k708, h_k800, h_k900, h_k2500, h_k22500, h_k45000, h_kn1, h_kn2, h_kJ, h_kU, h_eI, h_eL, h_eR, h_eT, h_b1, h_eZ, h_not, h_b2, h_b0, h_b0L, h_gI, h_gL, h_gN, h_gR, h_aI, h_aL, h_aR, h_aLen, h_tern, h_and, h_or, h_vN, h_vI, h_vJ, h_vA, h_cFv, h_cFs, h_toI, h_toL, h_toV, h_nO, h_nA, g_skip, g_brk, g_cnt, g_retV, g_seq, g_if, g_setI, g_setR, g_setL, g_inc, g_putI, g_putZ, g_putL, g_putR, g_upI, g_AI, g_AL, g_AR, g_UA, g_exp, g_retI, g_retL, g_retZ, g_scope, g_unBrk, g_sup, h_fn, argE_n, argE_i, argE_r, argE_l, argE_a, sto_0, sto_s, sto_n0, sto_ns, isL_i, isL_r, isL_n, isL_a, isL_l, isL_0, rcv_r, rcv_a, List.getElem?_cons_zero, List.getElem?_cons_succ, List.getElem?_nil, List.set_cons_zero, List.set_cons_succ, List.take_succ_cons, List.take_zero, List.take_nil, List.length_cons, List.length_nil, List.nil_append, List.cons_append, Nat.reduceAdd, Nat.reduceSub, Nat.reduceLT, Nat.reduceEqDiff, Nat.reduceLeDiff, Nat.zero_add, Nat.lt_irrefl, Nat.succ_sub_one, and_true, true_and, and_false, false_and, not_false_eq_true, not_true_eq_false, Bool.false_eq_true, Bool.not_true, Bool.not_false, Bool.not_eq_true', Bool.true_eq_false, decide_true, decide_false, decide_eq_true_eq, decide_eq_false_iff_not, Option.some.injEq, and_self, Nat.add_one_sub_one, Nat.lt_add_one, Nat.zero_lt_succ, Value.int.injEq, Value.ref.injEq, Value.long.injEq, exists_eq_left', exists_eq_left, Sum.inl.injEq, Sum.inr.injEq, i2z_b2i, n32_add, n32_mul, n32_inc, n_iEq, n_iNe, n_iLt, n_iLe, n_iGt, n_iGe, n_zEq, n_zLt, n_zLe, n_zGt, n_zGe, n_inb, n32_clamp, hq, h'.T.t, h'.V.kinds, Y'.t, Y'.y0, Y'.tc, cv, sv_pos, w0, h_of (q_slot _ _ _ _), Y'.y2, Y'.tb, bv, h_of (q_plus _ _ _), ← hm1, h1.T.t, h_of ey1, Y1.t, h_of e2]
          refine ⟨by omega, by omega, by omega, true, rfl, (F.trans (F1.mono (fun a z => Or.inr z))).trans (F2.mono (fun a z => Or.inl z)), ?_, ?_, fun z => by cases z⟩
          · refine J4.c fun r j hr hj => ?_
            show _ = sumN u _ + (sumN q _ + _)
            rw [← Nat.add_assoc]
            rfl
          · intro t m' r ht hm hr
            rw [F2.vl (by omega), hm1, vl_pL]
            by_cases e : B + 60 = B + 60 ∧ (t * 25 + m') * 8 + r = (s * 25 + n) * 8 + q
            · have er : r = q := by omega
              have et : t = s := by omega
              have em : m' = n := by omega
              subst er; subst et; subst em
              rw [if_pos ⟨rfl, rfl⟩]
              simp [cnI]
            · rw [if_neg e, J2 t m' r ht hm hr]
              congr 1
              dsimp only
              by_cases e2 : t = s ∧ m' = n
              · rw [if_pos e2, if_pos e2]
                have : r ≠ q := fun z => e ⟨rfl, by rw [e2.1, e2.2, z]⟩
                by_cases e3 : r < q
                · simp [cnI, e3, show r < q + 1 by omega]
                · simp [cnI, e3, show ¬ r < q + 1 by omega]
              · rw [if_neg e2, if_neg e2]
        · have w00 : WN p lo s n q u = 0 := by omega
          simp (disch := omega) only [hR_d, hT_d, hI_t, hI_f, hVI_s, hVL_s, hVR_s, hVT_s, hVV_s, hO_s, hB_0, hB_1, hB_2, hB_r, hU_0, hU_1, hU_2, hU_r, hX_r, hL_0, hL_1, hL_2, hL_r, hC_s, h_k0, h_k1, h_k2, h_k3, h_k4, h_k5, h_k6, h_k7, h_k8, h_k9, h_k10, h_k11, h_k12, h_k14, h_k16, h_k18, h_k20, h_k23, h_k24, h_k25, h_k32, h_k44, h_k48, h_k50, h_k54, h_k57, h_k58, h_k59, h_k60, h_k63, h_k97, h_k100, h_k122, h_k177, h_k255, h_k400, h_k450, h_k625, h_k649, h_k708, h_k800, h_k900, h_k2500, h_k22500, h_k45000, h_kn1, h_kn2, h_kJ, h_kU, h_eI, h_eL, h_eR, h_eT, h_b1, h_eZ, h_not, h_b2, h_b0, h_b0L, h_gI, h_gL, h_gN, h_gR, h_aI, h_aL, h_aR, h_aLen, h_tern, h_and, h_or, h_vN, h_vI, h_vJ, h_vA, h_cFv, h_cFs, h_toI, h_toL, h_toV, h_nO, h_nA, g_skip, g_brk, g_cnt, g_retV, g_seq, g_if, g_setI, g_setR, g_setL, g_inc, g_putI, g_putZ, g_putL, g_putR, g_upI, g_AI, g_AL, g_AR, g_UA, g_exp, g_retI, g_retL, g_retZ, g_scope, g_unBrk, g_sup, h_fn, argE_n, argE_i, argE_r, argE_l, argE_a, sto_0, sto_s, sto_n0, sto_ns, isL_i, isL_r, isL_n, isL_a, isL_l, isL_0, rcv_r, rcv_a, List.getElem?_cons_zero, List.getElem?_cons_succ, List.getElem?_nil, List.set_cons_zero, List.set_cons_succ, List.take_succ_cons, List.take_zero, List.take_nil, List.length_cons, List.length_nil, List.nil_append, List.cons_append, Nat.reduceAdd, Nat.reduceSub, Nat.reduceLT, Nat.reduceEqDiff, Nat.reduceLeDiff, Nat.zero_add, Nat.lt_irrefl, Nat.succ_sub_one, and_true, true_and, and_false, false_and, not_false_eq_true, not_true_eq_false, Bool.false_eq_true, Bool.not_true, Bool.not_false, Bool.not_eq_true', Bool.true_eq_false, decide_true, decide_false, decide_eq_true_eq, decide_eq_false_iff_not, Option.some.injEq, and_self, Nat.add_one_sub_one, Nat.lt_add_one, Nat.zero_lt_succ, Value.int.injEq, Value.ref.injEq, Value.long.injEq, exists_eq_left', exists_eq_left, Sum.inl.injEq, Sum.inr.injEq, i2z_b2i, n32_add, n32_mul, n32_inc, n_iEq, n_iNe, n_iLt, n_iLe, n_iGt, n_iGe, n_zEq, n_zLt, n_zLe, n_zGt, n_zGe, n_inb, n32_clamp, hq, h'.T.t, h'.V.kinds, Y'.t, Y'.y0, Y'.tc, cv, sv_pos, w0]
          refine ⟨by omega, b, rfl, F, ?_, ?_, fun z => ⟨(J3 z).1, fun r hr => ?_⟩⟩
          · refine J1.c fun r j hr hj => ?_
            show _ = sumN u _ + (sumN q _ + cnI _ (WN p lo s n q u))
            rw [w00]
            have : ∀ b, cnI b 0 = 0 := fun b => by cases b <;> rfl
            rw [this]
            rfl
          · refine J2.c fun t m' r ht hm hr => ?_
            by_cases e2 : t = s ∧ m' = n
            · rw [if_pos e2, if_pos e2]
              by_cases e4 : r = q
              · subst e4; simp [cnI, w00]
              · by_cases e3 : r < q
                · simp [cnI, e3, show r < q + 1 by omega]
                · simp [cnI, e3, show ¬ r < q + 1 by omega]
            · rw [if_neg e2, if_neg e2]
          · by_cases e4 : r = q
            · rw [e4]; exact w00
            · exact (J3 z).2 r (by omega)
      · rintro e m ⟨b, rfl, F, J1, J2, J3⟩
        have h' := h.fr F (fun a z1 z2 z3 => by omega)
        simp (disch := omega) only [hR_d, hT_d, hI_t, hI_f, hVI_s, hVL_s, hVR_s, hVT_s, hVV_s, hO_s, hB_0, hB_1, hB_2, hB_r, hU_0, hU_1, hU_2, hU_r, hX_r, hL_0, hL_1, hL_2, hL_r, hC_s, h_k0, h_k1, h_k2, h_k3, h_k4, h_k5, h_k6, h_k7, h_k8, h_k9, h_k10, h_k11, h_k12, h_k14, h_k16, h_k18, h_k20, h_k23, h_k24, h_k25, h_k32, h_k44, h_k48, h_k50, h_k54, h_k57, h_k58, h_k59, h_k60, h_k63, h_k97, h_k100, h_k122, h_k177, h_k255, h_k400, h_k450, h_k625, h_k649, h_k708, h_k800, h_k900, h_k2500, h_k22500, h_k45000, h_kn1, h_kn2, h_kJ, h_kU, h_eI, h_eL, h_eR, h_eT, h_b1, h_eZ, h_not, h_b2, h_b0, h_b0L, h_gI, h_gL, h_gN, h_gR, h_aI, h_aL, h_aR, h_aLen, h_tern, h_and, h_or, h_vN, h_vI, h_vJ, h_vA, h_cFv, h_cFs, h_toI, h_toL, h_toV, h_nO, h_nA, g_skip, g_brk, g_cnt, g_retV, g_seq, g_if, g_setI, g_setR, g_setL, g_inc, g_putI, g_putZ, g_putL, g_putR, g_upI, g_AI, g_AL, g_AR, g_UA, g_exp, g_retI, g_retL, g_retZ, g_scope, g_unBrk, g_sup, h_fn, argE_n, argE_i, argE_r, argE_l, argE_a, sto_0, sto_s, sto_n0, sto_ns, isL_i, isL_r, isL_n, isL_a, isL_l, isL_0, rcv_r, rcv_a, List.getElem?_cons_zero, List.getElem?_cons_succ, List.getElem?_nil, List.set_cons_zero, List.set_cons_succ, List.take_succ_cons, List.take_zero, List.take_nil, List.length_cons, List.length_nil, List.nil_append, List.cons_append, Nat.reduceAdd, Nat.reduceSub, Nat.reduceLT, Nat.reduceEqDiff, Nat.reduceLeDiff, Nat.zero_add, Nat.lt_irrefl, Nat.succ_sub_one, and_true, true_and, and_false, false_and, not_false_eq_true, not_true_eq_false, Bool.false_eq_true, Bool.not_true, Bool.not_false, Bool.not_eq_true', Bool.true_eq_false, decide_true, decide_false, decide_eq_true_eq, decide_eq_false_iff_not, Option.some.injEq, and_self, Nat.add_one_sub_one, Nat.lt_add_one, Nat.zero_lt_succ, Value.int.injEq, Value.ref.injEq, Value.long.injEq, exists_eq_left', exists_eq_left, Sum.inl.injEq, Sum.inr.injEq, i2z_b2i, n32_add, n32_mul, n32_inc, n_iEq, n_iNe, n_iLt, n_iLe, n_iGt, n_iGe, n_zEq, n_zLt, n_zLe, n_zGt, n_zGe, n_inb, n32_clamp, h'.T.t, h'.V.kinds]
        refine ⟨b, rfl, F, J1.c (fun r j _ _ => rfl), J2.c (fun t m' r _ _ hr => ?_), fun z r j hr hj => ?_⟩
        · by_cases e2 : t = s ∧ m' = n
          · rw [if_pos e2, if_pos e2]
            simp only [cnI, hr, decide_true, if_true]
            rfl
          · rw [if_neg e2, if_neg e2]
        · by_cases e4 : j = u
          · rw [e4]; exact (J3 z).2 r hr
          · exact (J3 z).1 r j hr (by omega)
    · rintro e m ⟨b, rfl, F, J1, J2, J3⟩
      simp (disch := omega) only [hR_d, hT_d, hI_t, hI_f, hVI_s, hVL_s, hVR_s, hVT_s, hVV_s, hO_s, hB_0, hB_1, hB_2, hB_r, hU_0, hU_1, hU_2, hU_r, hX_r, hL_0, hL_1, hL_2, hL_r, hC_s, h_k0, h_k1, h_k2, h_k3, h_k4, h_k5, h_k6, h_k7, h_k8, h_k9, h_k10, h_k11, h_k12, h_k14, h_k16, h_k18, h_k20, h_k23, h_k24, h_k25, h_k32, h_k44, h_k48, h_k50, h_k54, h_k57, h_k58, h_k59, h_k60, h_k63, h_k97, h_k100, h_k122, h_k177, h_k255, h_k400, h_k450, h_k625, h_k649, h_k708, h_k800, h_k900, h_k2500, h_k22500, h_k45000, h_kn1, h_kn2, h_kJ, h_kU, h_eI, h_eL, h_eR, h_eT, h_b1, h_eZ, h_not, h_b2, h_b0, h_b0L, h_gI, h_gL, h_gN, h_gR, h_aI, h_aL, h_aR, h_aLen, h_tern, h_and, h_or, h_vN, h_vI, h_vJ, h_vA, h_cFv, h_cFs, h_toI, h_toL, h_toV, h_nO, h_nA, g_skip, g_brk, g_cnt, g_retV, g_seq, g_if, g_setI, g_setR, g_setL, g_inc, g_putI, g_putZ, g_putL, g_putR, g_upI, g_AI, g_AL, g_AR, g_UA, g_exp, g_retI, g_retL, g_retZ, g_scope, g_unBrk, g_sup, h_fn, argE_n, argE_i, argE_r, argE_l, argE_a, sto_0, sto_s, sto_n0, sto_ns, isL_i, isL_r, isL_n, isL_a, isL_l, isL_0, rcv_r, rcv_a, List.getElem?_cons_zero, List.getElem?_cons_succ, List.getElem?_nil, List.set_cons_zero, List.set_cons_succ, List.take_succ_cons, List.take_zero, List.take_nil, List.length_cons, List.length_nil, List.nil_append, List.cons_append, Nat.reduceAdd, Nat.reduceSub, Nat.reduceLT, Nat.reduceEqDiff, Nat.reduceLeDiff, Nat.zero_add, Nat.lt_irrefl, Nat.succ_sub_one, and_true, true_and, and_false, false_and, not_false_eq_true, not_true_eq_false, Bool.false_eq_true, Bool.not_true, Bool.not_false, Bool.not_eq_true', Bool.true_eq_false, decide_true, decide_false, decide_eq_true_eq, decide_eq_false_iff_not, Option.some.injEq, and_self, Nat.add_one_sub_one, Nat.lt_add_one, Nat.zero_lt_succ, Value.int.injEq, Value.ref.injEq, Value.long.injEq, exists_eq_left', exists_eq_left, Sum.inl.injEq, Sum.inr.injEq, i2z_b2i, n32_add, n32_mul, n32_inc, n_iEq, n_iNe, n_iLt, n_iLe, n_iGt, n_iGe, n_zEq, n_zLt, n_zLe, n_zGt, n_zGe, n_inb, n32_clamp, okZ_b2i]
      refine ⟨b, rfl, F, J1.c (fun r j _ _ => PS_end h.O n s r j hn), J2, fun z r j hr hj => ?_⟩
      by_cases e4 : r < pK p
      · exact J3 z r j e4 hj
      · refine Classical.byContradiction fun q => e4 ?_
        obtain ⟨m', rfl⟩ : ∃ m, n = m + 1 := ⟨n - 1, by omega⟩
        exact WN_lt q
  obtain ⟨v, m, h1, b, rfl, h2⟩ := h_ex key
  exact ⟨b, m, h1, h2⟩
end
