/-! THE REFERENCE'S READER: motifs, the line -/
section
variable {M : qM} {X C n q : Nat} {tp : Nat → Int32} {σ : Pr Nat} {p : Pl} {lo : Lo} {nm : Nm} {fl : Fl}
theorem mo1_e {e : qE} {m : qM} {o : Option Nat} (ho : ∀ k, o = some k → k < 4) (h3 : e[3]? = some (.int (mkI o))) (Q : Bool → qM → Prop) : hE mo1 e m Q () = Q o.isNone m := by
  unfold mo1
  have v : iEq (mkI o) (-1) = o.isNone := by
    cases o with
    | none => decide
    | some k =>
      have := ho k rfl
      have : k = 0 ∨ k = 1 ∨ k = 2 ∨ k = 3 := by omega
      rcases this with rfl | rfl | rfl | rfl <;> decide
  simp (disch := omega) only [hR_d, hT_d, hI_t, hI_f, hVI_s, hVL_s, hVR_s, hVT_s, hVV_s, hO_s, hB_0, hB_1, hB_2, hB_r, hU_0, hU_1, hU_2, hU_r, hX_r, hL_0, hL_1, hL_2, hL_r, hC_s, h_k0, h_k1, h_k2, h_k3, h_k4, h_k5, h_k6, h_k7, h_k8, h_k9, h_k10, h_k11, h_k12, h_k14, h_k16, h_k18, h_k20, h_k23, h_k24, h_k25, h_k32, h_k44, h_k48, h_k50, h_k54, h_k57, h_k58, h_k59, h_k60, h_k63, h_k97, h_k100, h_k122, h_k177, h_k255, h_k400, h_k450, h_k625, h_k649, h_k708, h_k800, h_k900, h_k2500, h_k22500, h_k45000, h_kn1, h_kn2, h_kJ, h_kU, h_eI, h_eL, h_eR, h_eT, h_b1, h_eZ, h_not, h_b2, h_b0, h_b0L, h_gI, h_gL, h_gN, h_gR, h_aI, h_aL, h_aR, h_aLen, h_tern, h_and, h_or, h_vN, h_vI, h_vJ, h_vA, h_cFv, h_cFs, h_toI, h_toL, h_toV, h_nO, h_nA, g_skip, g_brk, g_cnt, g_retV, g_seq, g_if, g_setI, g_setR, g_setL, g_inc, g_putI, g_putZ, g_putL, g_putR, g_upI, g_AI, g_AL, g_AR, g_UA, g_exp, g_retI, g_retL, g_retZ, g_scope, g_unBrk, g_sup, h_fn, argE_n, argE_i, argE_r, argE_l, argE_a, sto_0, sto_s, sto_n0, sto_ns, isL_i, isL_r, isL_n, isL_a, isL_l, isL_0, rcv_r, rcv_a, List.getElem?_cons_zero, List.getElem?_cons_succ, List.getElem?_nil, List.set_cons_zero, List.set_cons_succ, List.take_succ_cons, List.take_zero, List.take_nil, List.length_cons, List.length_nil, List.nil_append, List.cons_append, Nat.reduceAdd, Nat.reduceSub, Nat.reduceLT, Nat.reduceEqDiff, Nat.reduceLeDiff, Nat.zero_add, Nat.lt_irrefl, Nat.succ_sub_one, and_true, true_and, and_false, false_and, not_false_eq_true, not_true_eq_false, Bool.false_eq_true, Bool.not_true, Bool.not_false, Bool.not_eq_true', Bool.true_eq_false, decide_true, decide_false, decide_eq_true_eq, decide_eq_false_iff_not, Option.some.injEq, and_self, Nat.add_one_sub_one, Nat.lt_add_one, Nat.zero_lt_succ, Value.int.injEq, Value.ref.injEq, Value.long.injEq, exists_eq_left', exists_eq_left, Sum.inl.injEq, Sum.inr.injEq, i2z_b2i, h_vS, h_kN, h3, v]
theorem r_readMotif (h : MB M X C n tp) (s : MS M X tp n (.inr q)) (Q : MQd M C p lo nm fl) (K : RdOK p lo nm fl) (k1 : tkK tp n q = 1) : ∃ M', f_X10_readMotif [.ref X] M = some (none, M') ∧ MPo M M' X C n tp (pMotif tp n (p, lo, nm, fl) q) := by
  have d := h.d
  have cs := K.O.cols
  have kk := K.O.kinds
  have mm := K.O.ms
  have len := K.len
  obtain ⟨M1, e1, f1, s1⟩ := m_beg h s (fun q' hq => by cases hq; omega) (a := pMs p) (b := 4) (by omega) (by decide)
  have h1 := f1.mb h
  have Q1 := Q.xf h f1
  obtain ⟨x, M2, e2, f2, s2, r2⟩ := m_fresh h1 s1 Q1.N
  have h2 := f2.mb h1
  obtain ⟨M3, f3, s3, e3⟩ := m_moK h2 s2 (e := [.ref X, .long x, .null]) rfl
  have h3 := f3.mb h2
  generalize hτ : pB (if pMs p = 4 then flw tp n 5 (.inr q) else gos tp n (.inr q)) (pF tp n nm) = τ at s2 s3 e3
  have ho : ∀ k, mkS tp n τ = some k → k < 4 := fun k hk => by
    cases τ with
    | inl e => cases hk
    | inr q2 => exact mkO_lt hk
  obtain ⟨M4, f4, s4, e4⟩ := m_cIf h3 s3 (c := mo1) (e := [.ref X, .long x, .null, .int (mkI (mkS tp n τ))]) (b := (mkS tp n τ).isNone) 1 1 rfl rfl (fun Q => mo1_e ho rfl Q)
  have h4 := f4.mb h3
  have E4 : ∀ (Q : Re → qE → qM → Prop) (u : Hd (moI1, Q)), hS moI1 _ M3 Q u = Q (.inl 0) _ M4 := e4
  have f04 := ((f1.trans f2).trans f3).trans f4
  have Q4 := Q.xf h f04
  have hm4 : pMs p < 4 ∨ ∃ e, fwS tp n 1 (mkS tp n τ).isNone (moS tp n τ) = .inl e := by
    by_cases t : pMs p < 4
    · exact Or.inl t
    · refine Or.inr ⟨(5, tkP tp n q), ?_⟩
      rw [if_pos (by omega)] at hτ
      have hτ : .inl (5, tkP tp n q) = τ := hτ
      subst hτ
      exact fwS_l
  have L := m_moL (x := x) (kv := mkI (mkS tp n τ)) h4 s4 Q4.N K Q4.V.ms hm4
  suffices key : hF f_X10_readMotif [.ref X] M (fun v M' => v = none ∧ MPo M M' X C n tp (pMotif tp n (p, lo, nm, fl) q)) () by
    obtain ⟨v, M', e, rfl, g⟩ := h_ex key
    exact ⟨M', e, g⟩
  delta f_X10_readMotif
  rw [mmo_eq]
  simp (disch := omega) only [hR_d, hT_d, hI_t, hI_f, hVI_s, hVL_s, hVR_s, hVT_s, hVV_s, hO_s, hB_0, hB_1, hB_2, hB_r, hU_0, hU_1, hU_2, hU_r, hX_r, hL_0, hL_1, hL_2, hL_r, hC_s, h_k0, h_k1, h_k2, h_k3, h_k4, h_k5, h_k6, h_k7, h_k8, h_k9, h_k10, h_k11, h_k12, h_k14, h_k16, h_k18, h_k20, h_k23, h_k24, h_k25, h_k32, h_k44, h_k48, h_k50, h_k54, h_k57, h_k58, h_k59, h_k60, h_k63, h_k97, h_k100, h_k122, h_k177, h_k255, h_k400, h_k450, h_k625, h_k649, h_k708, h_k800, h_k900, h_k2500, h_k22500, h_k45000, h_kn1, h_kn2, h_kJ, h_kU, h_eI, h_eL, h_eR, h_eT, h_b1, h_eZ, h_not, h_b2, h_b0, h_b0L, h_gI, h_gL, h_gN, h_gR, h_aI, h_aL, h_aR, h_aLen, h_tern, h_and, h_or, h_vN, h_vI, h_vJ, h_vA, h_cFv, h_cFs, h_toI, h_toL, h_toV, h_nO, h_nA, g_skip, g_brk, g_cnt, g_retV, g_seq, g_if, g_setI, g_setR, g_setL, g_inc, g_putI, g_putZ, g_putL, g_putR, g_upI, g_AI, g_AL, g_AR, g_UA, g_exp, g_retI, g_retL, g_retZ, g_scope, g_unBrk, g_sup, h_fn, argE_n, argE_i, argE_r, argE_l, argE_a, sto_0, sto_s, sto_n0, sto_ns, isL_i, isL_r, isL_n, isL_a, isL_l, isL_0, rcv_r, rcv_a, List.getElem?_cons_zero, List.getElem?_cons_succ, List.getElem?_nil, List.set_cons_zero, List.set_cons_succ, List.take_succ_cons, List.take_zero, List.take_nil, List.length_cons, List.length_nil, List.nil_append, List.cons_append, Nat.reduceAdd, Nat.reduceSub, Nat.reduceLT, Nat.reduceEqDiff, Nat.reduceLeDiff, Nat.zero_add, Nat.lt_irrefl, Nat.succ_sub_one, and_true, true_and, and_false, false_and, not_false_eq_true, not_true_eq_false, Bool.false_eq_true, Bool.not_true, Bool.not_false, Bool.not_eq_true', Bool.true_eq_false, decide_true, decide_false, decide_eq_true_eq, decide_eq_false_iff_not, Option.some.injEq, and_self, Nat.add_one_sub_one, Nat.lt_add_one, Nat.zero_lt_succ, Value.int.injEq, Value.ref.injEq, Value.long.injEq, exists_eq_left', exists_eq_left, Sum.inl.injEq, Sum.inr.injEq, i2z_b2i, h_vS, h_kN, n32_add, n32_mul, n32_inc, n_iEq, n_iNe, n_iLt, n_iLe, n_iGt, n_iGe, n_zEq, n_zLt, n_zLe, n_zGt, n_zGe, n_inb, n32_clamp, tg_pI, tg_pL, tg_pR, vr_pI, vr_pL, vl_pI, vl_pR, vi_pL, vi_pR, mN_pI, mN_pL, mN_pR, mU_pI, mU_pL, mU_pR, h.T.t, h.r4, h.D.t, Q.V.ms, h_of e1, h1.T.t, h_of e2, e3, E4]
  have R : (∃ e0, pMotif tp n (p, lo, nm, fl) q = .inl e0 ∧ pB (fwS tp n 1 (mkS tp n τ).isNone (moS tp n τ)) (pMotL tp n nm 5 0 (fun _ => 0)) = .inl e0) ∨ (∃ y k, pMotif tp n (p, lo, nm, fl) q = .inr (y.1, plM p k y.2.1 y.2.2, lo, nm ++ [(tkW tp n (tkE tp n q), 2, pMs p)], fl) ∧ pB (fwS tp n 1 (mkS tp n τ).isNone (moS tp n τ)) (pMotL tp n nm 5 0 (fun _ => 0)) = .inr y ∧ pMs p < 4 ∧ k < 4 ∧ mkS tp n τ = some k ∧ ∃ q', pF tp n nm (tkE tp n q) = .inr q') := by
    unfold pMotif
    by_cases t : 4 ≤ pMs p
    · rw [if_pos (by omega)] at hτ
      have hτ : .inl (5, tkP tp n q) = τ := hτ
      subst hτ
      exact Or.inl ⟨(5, tkP tp n q), by rw [if_pos t], by rw [show moS tp n (.inl (5, tkP tp n q)) = .inl (5, tkP tp n q) from rfl, fwS_l, pB_l]⟩
    · rw [if_neg (by omega), gos_r, pB_r] at hτ
      rw [if_neg t]
      cases y1 : pF tp n nm (tkE tp n q) with
      | inl e =>
        rw [y1] at hτ
        subst hτ
        exact Or.inl ⟨e, by simp only [y1, pB_l], by rw [show moS tp n (.inl e) = .inl e from rfl, fwS_l, pB_l]⟩
      | inr q2 =>
      rw [y1] at hτ
      subst hτ
      rw [show mkS tp n (.inr q2) = mkO tp n q2 from rfl]
      cases y2 : mkO tp n q2 with
      | none => exact Or.inl ⟨(1, tkP tp n q2), by simp only [y1, pB_r, y2], by rw [show moS tp n (.inr q2) = .inr q2 by unfold moS; simp only [y2]]; rfl⟩
      | some k =>
      rw [show moS tp n (.inr q2) = .inr (tkE tp n q2) by unfold moS; simp only [y2], show (some k : Option Nat).isNone = false from rfl, fwS_f]
      cases y3 : pMotL tp n nm 5 0 (fun _ => 0) (tkE tp n q2) with
      | inl e => exact Or.inl ⟨e, by simp only [y1, pB_r, y2, y3, pB_l], by rw [pB_r, y3]⟩
      | inr y => exact Or.inr ⟨y, k, by simp only [y1, pB_r, y2, y3], by rw [pB_r, y3], by omega, mkO_lt y2, rfl, q2, rfl⟩
  refine hS.mono L ?_
  rintro r e M6 ⟨τ6, s6, F6, g⟩
  have h6 := F6.mb h4
  have F06 := (f04.lf C).trans F6
  obtain ⟨z, z1, z2, z3⟩ := s6.o
  rcases g with ⟨e0, g, rfl, o⟩ | ⟨q', i, Rm, w, g, rfl, rfl, rfl, J, h4i⟩
  · have t : pMotif tp n (p, lo, nm, fl) q = .inl e0 := by
      rcases R with ⟨e1, t, g1⟩ | ⟨y, k, t, g1, -⟩
      · rw [g1] at g; cases g; exact t
      · rw [g1] at g; cases g
    have G := MPo.f (M := M) t F06 s6
    rcases o with rfl | ⟨rfl, o⟩
    · simp (disch := omega) only [hR_d, hT_d, hI_t, hI_f, hVI_s, hVL_s, hVR_s, hVT_s, hVV_s, hO_s, hB_0, hB_1, hB_2, hB_r, hU_0, hU_1, hU_2, hU_r, hX_r, hL_0, hL_1, hL_2, hL_r, hC_s, h_k0, h_k1, h_k2, h_k3, h_k4, h_k5, h_k6, h_k7, h_k8, h_k9, h_k10, h_k11, h_k12, h_k14, h_k16, h_k18, h_k20, h_k23, h_k24, h_k25, h_k32, h_k44, h_k48, h_k50, h_k54, h_k57, h_k58, h_k59, h_k60, h_k63, h_k97, h_k100, h_k122, h_k177, h_k255, h_k400, h_k450, h_k625, h_k649, h_k708, h_k800, h_k900, h_k2500, h_k22500, h_k45000, h_kn1, h_kn2, h_kJ, h_kU, h_eI, h_eL, h_eR, h_eT, h_b1, h_eZ, h_not, h_b2, h_b0, h_b0L, h_gI, h_gL, h_gN, h_gR, h_aI, h_aL, h_aR, h_aLen, h_tern, h_and, h_or, h_vN, h_vI, h_vJ, h_vA, h_cFv, h_cFs, h_toI, h_toL, h_toV, h_nO, h_nA, g_skip, g_brk, g_cnt, g_retV, g_seq, g_if, g_setI, g_setR, g_setL, g_inc, g_putI, g_putZ, g_putL, g_putR, g_upI, g_AI, g_AL, g_AR, g_UA, g_exp, g_retI, g_retL, g_retZ, g_scope, g_unBrk, g_sup, h_fn, argE_n, argE_i, argE_r, argE_l, argE_a, sto_0, sto_s, sto_n0, sto_ns, isL_i, isL_r, isL_n, isL_a, isL_l, isL_0, rcv_r, rcv_a, List.getElem?_cons_zero, List.getElem?_cons_succ, List.getElem?_nil, List.set_cons_zero, List.set_cons_succ, List.take_succ_cons, List.take_zero, List.take_nil, List.length_cons, List.length_nil, List.nil_append, List.cons_append, Nat.reduceAdd, Nat.reduceSub, Nat.reduceLT, Nat.reduceEqDiff, Nat.reduceLeDiff, Nat.zero_add, Nat.lt_irrefl, Nat.succ_sub_one, and_true, true_and, and_false, false_and, not_false_eq_true, not_true_eq_false, Bool.false_eq_true, Bool.not_true, Bool.not_false, Bool.not_eq_true', Bool.true_eq_false, decide_true, decide_false, decide_eq_true_eq, decide_eq_false_iff_not, Option.some.injEq, and_self, Nat.add_one_sub_one, Nat.lt_add_one, Nat.zero_lt_succ, Value.int.injEq, Value.ref.injEq, Value.long.injEq, exists_eq_left', exists_eq_left, Sum.inl.injEq, Sum.inr.injEq, i2z_b2i, h_vS, h_kN]
      exact G
    · have z5 : z = 5 := of_decide_eq_true z3
      simp (disch := omega) only [hR_d, hT_d, hI_t, hI_f, hVI_s, hVL_s, hVR_s, hVT_s, hVV_s, hO_s, hB_0, hB_1, hB_2, hB_r, hU_0, hU_1, hU_2, hU_r, hX_r, hL_0, hL_1, hL_2, hL_r, hC_s, h_k0, h_k1, h_k2, h_k3, h_k4, h_k5, h_k6, h_k7, h_k8, h_k9, h_k10, h_k11, h_k12, h_k14, h_k16, h_k18, h_k20, h_k23, h_k24, h_k25, h_k32, h_k44, h_k48, h_k50, h_k54, h_k57, h_k58, h_k59, h_k60, h_k63, h_k97, h_k100, h_k122, h_k177, h_k255, h_k400, h_k450, h_k625, h_k649, h_k708, h_k800, h_k900, h_k2500, h_k22500, h_k45000, h_kn1, h_kn2, h_kJ, h_kU, h_eI, h_eL, h_eR, h_eT, h_b1, h_eZ, h_not, h_b2, h_b0, h_b0L, h_gI, h_gL, h_gN, h_gR, h_aI, h_aL, h_aR, h_aLen, h_tern, h_and, h_or, h_vN, h_vI, h_vJ, h_vA, h_cFv, h_cFs, h_toI, h_toL, h_toV, h_nO, h_nA, g_skip, g_brk, g_cnt, g_retV, g_seq, g_if, g_setI, g_setR, g_setL, g_inc, g_putI, g_putZ, g_putL, g_putR, g_upI, g_AI, g_AL, g_AR, g_UA, g_exp, g_retI, g_retL, g_retZ, g_scope, g_unBrk, g_sup, h_fn, argE_n, argE_i, argE_r, argE_l, argE_a, sto_0, sto_s, sto_n0, sto_ns, isL_i, isL_r, isL_n, isL_a, isL_l, isL_0, rcv_r, rcv_a, List.getElem?_cons_zero, List.getElem?_cons_succ, List.getElem?_nil, List.set_cons_zero, List.set_cons_succ, List.take_succ_cons, List.take_zero, List.take_nil, List.length_cons, List.length_nil, List.nil_append, List.cons_append, Nat.reduceAdd, Nat.reduceSub, Nat.reduceLT, Nat.reduceEqDiff, Nat.reduceLeDiff, Nat.zero_add, Nat.lt_irrefl, Nat.succ_sub_one, and_true, true_and, and_false, false_and, not_false_eq_true, not_true_eq_false, Bool.false_eq_true, Bool.not_true, Bool.not_false, Bool.not_eq_true', Bool.true_eq_false, decide_true, decide_false, decide_eq_true_eq, decide_eq_false_iff_not, Option.some.injEq, and_self, Nat.add_one_sub_one, Nat.lt_add_one, Nat.zero_lt_succ, Value.int.injEq, Value.ref.injEq, Value.long.injEq, exists_eq_left', exists_eq_left, Sum.inl.injEq, Sum.inr.injEq, i2z_b2i, h_vS, h_kN, n32_add, n32_mul, n32_inc, n_iEq, n_iNe, n_iLt, n_iLe, n_iGt, n_iGe, n_zEq, n_zLt, n_zLe, n_zGt, n_zGe, n_inb, n32_clamp, tg_pI, tg_pL, tg_pR, vr_pI, vr_pL, vl_pI, vl_pR, vi_pL, vi_pR, mN_pI, mN_pL, mN_pR, mU_pI, mU_pL, mU_pR, o, h6.T.t, z1, z5]
      exact G
  · obtain ⟨k, t, ms4, k4, ok, hF⟩ : ∃ k, pMotif tp n (p, lo, nm, fl) q = .inr (q', plM p k i Rm, lo, nm ++ [(tkW tp n (tkE tp n q), 2, pMs p)], fl) ∧ pMs p < 4 ∧ k < 4 ∧ mkS tp n τ = some k ∧ ∃ q', pF tp n nm (tkE tp n q) = .inr q' := by
      rcases R with ⟨e1, t, g1⟩ | ⟨y, k, t, g1, rest⟩
      · rw [g1] at g; cases g
      · rw [g1] at g; cases g; exact ⟨k, t, rest⟩
    rw [ok]
    have z5 : ¬ z = 5 := of_decide_eq_false z3
    rw [if_neg (show ¬ pMs p = 4 by omega)] at r2
    obtain ⟨rfl, kx⟩ := r2 (tkE tp n q) rfl hF
    have le := tkE_le (tp := tp) s.1
    have Q4V := Q4.V
    have N6 : NmR M6 C nm := ⟨by rw [J.k _ _ (by omega) (by omega)]; exact Q4.N.nn, Q4.N.n14, fun i hi => by rw [J.l _ _ (by omega), J.k _ _ (by omega) (by omega), J.k _ _ (by omega) (by omega)]; exact Q4.N.nw i hi, Q4.N.ok⟩
    obtain ⟨M7, e7, f7, k7, l7, N7⟩ := m_names h6 N6 (w := tkW tp n (tkE tp n q)) (s := 2) (k := pMs p) (by omega) (tkW_ok le.2 kx) (by decide) (by omega)
    have h7 := f7.mb h6
    obtain ⟨M8, hM8⟩ : ∃ M8, M8 = pI (pI (pI M7 (C + 13) (pMs p) (n32 k)) (C + 14) (pMs p) (n32 i)) C 4 (n32 (pMs p + 1)) := ⟨_, rfl⟩
    have k8 : ∀ u j, ¬ ((u = C + 13 ∧ j = pMs p) ∨ (u = C + 14 ∧ j = pMs p) ∨ (u = C ∧ j = 4)) → vi M8 u j = vi M7 u j := fun u j hn => by rw [hM8, vi_pI, if_neg (by omega), vi_pI, if_neg (by omega), vi_pI, if_neg (by omega)]
    have l8 : vl M8 = vl M7 := by rw [hM8]; rfl
    have f8 : LF M7 M8 X C := by
      refine ⟨?_, fun j hj => k8 _ _ (by omega)⟩
      rw [hM8]
      exact (((Fr.refl (mS X C) M7).pI _ _ (Or.inr ⟨by omega, by omega⟩)).pI _ _ (Or.inr ⟨by omega, by omega⟩)).pI _ _ (Or.inr ⟨by omega, by omega⟩)
    have s8 : MS M8 X tp n (.inr q') := s6.mv (fun j => by rw [k8 _ _ (by omega), k7 _ _ (by omega)]) (by rw [l8, l7 _ _ (by omega)])
    have kk8 : ∀ a j, C ≤ a ∧ a ≤ C + 21 → ¬ ((a = C + 13 ∧ j = pMs p) ∨ (a = C + 14 ∧ j = pMs p) ∨ (a = C + 15 ∧ 4 * pMs p ≤ j ∧ j < 4 * pMs p + 4) ∨ (a = C ∧ j = 4) ∨ ((a = C + 20 ∨ a = C + 21) ∧ j = nm.length) ∨ (a = C ∧ j = 7)) → vi M8 a j = vi M4 a j := fun a j ha hn => by
      rw [k8 _ _ (by omega), k7 _ _ (by omega)]; exact J.k a j ha (by omega)
    have c6 : vi M6 C 4 = n32 (pMs p) := by rw [J.k _ _ (by omega) (by omega)]; exact Q4V.ms
    have c7 : vi M7 C 4 = n32 (pMs p) := by rw [k7 _ _ (by omega)]; exact c6
    have G : MPo M M8 X C n tp (pMotif tp n (p, lo, nm, fl) q) := by
      refine MPo.s (rd := (plM p k i Rm, lo, nm ++ [(tkW tp n (tkE tp n q), 2, pMs p)], fl)) t ((F06.trans f7).trans f8) s8 ⟨?_, ?_, ?_, fun u v hu hv => ?_, fun u j hu hj => ?_, fun u hu => ?_, fun u hu => ?_, fun r hr => ?_, fun r hr => ?_, fun r hr hk => ?_⟩
      · have V4' : ClothV (pI (pI (pI M4 (C + 20) nm.length (vi M8 (C + 20) nm.length)) (C + 21) nm.length (vi M8 (C + 21) nm.length)) C 7 (vi M8 C 7)) C p := Q4V.kp (fun u j hn => by rw [vi_pI, if_neg (by omega), vi_pI, if_neg (by omega), vi_pI, if_neg (by omega)])
        refine V4'.u_mo2 K.O ms4 k4 h4i (fun j hj => (J.R j hj).2) (fun a j ⟨ha, hn⟩ => ?_) (by rw [hM8, vi_ne (by omega), vi_ne (by omega), vi_self]) (by rw [hM8, vi_ne (by omega), vi_self]) (fun j hj => by rw [k8 _ _ (by omega), k7 _ _ (by omega)]; exact (J.R j hj).1) (by rw [hM8, vi_self])
        rw [vi_pI]
        by_cases e1 : a = C ∧ j = 7
        · rw [if_pos e1, e1.1, e1.2]
        · rw [if_neg e1, vi_pI]
          by_cases e2 : a = C + 21 ∧ j = nm.length
          · rw [if_pos e2, e2.1, e2.2]
          · rw [if_neg e2, vi_pI]
            by_cases e3 : a = C + 20 ∧ j = nm.length
            · rw [if_pos e3, e3.1, e3.2]
            · rw [if_neg e3]; exact kk8 a j ha (by omega)
      · exact ⟨by rw [k8 _ _ (by omega)]; exact N7.nn, N7.n14, fun i hi => by rw [l8, k8 _ _ (by omega), k8 _ _ (by omega)]; exact N7.nw i hi, N7.ok⟩
      · rw [kk8 _ _ (by omega) (by omega)]; exact Q4.told
      · rw [kk8 _ _ (by omega) (by omega)]; exact Q4.st u v hu hv
      · rw [kk8 _ _ (by omega) (by omega)]; exact Q4.wv u j hu hj
      · rw [kk8 _ _ (by omega) (by omega)]; exact Q4.wm u hu
      · rw [kk8 _ _ (by omega) (by omega)]; exact Q4.iw u hu
      · rw [kk8 _ _ (by omega) (by omega)]; exact Q4.inx r hr
      · rw [kk8 _ _ (by omega) (by omega)]; exact Q4.ian r hr
      · have hk : plM p k i Rm 5 0 ≤ r := hk
        rw [plM_f (by decide)] at hk
        rw [kk8 _ _ (by omega) (by omega)]; exact Q4.z11 r hr hk
    have a1 : ∀ y, vi (pI M7 (C + 13) (pMs p) y) C 4 = n32 (pMs p) := fun y => by rw [vi_ne (by omega)]; exact c7
    have a2 : ∀ y w, vi (pI (pI M7 (C + 13) (pMs p) y) (C + 14) (pMs p) w) C 4 = n32 (pMs p) := fun y w => by rw [vi_ne (by omega)]; exact a1 y
    unfold moT
    simp (disch := omega) only [hR_d, hT_d, hI_t, hI_f, hVI_s, hVL_s, hVR_s, hVT_s, hVV_s, hO_s, hB_0, hB_1, hB_2, hB_r, hU_0, hU_1, hU_2, hU_r, hX_r, hL_0, hL_1, hL_2, hL_r, hC_s, h_k0, h_k1, h_k2, h_k3, h_k4, h_k5, h_k6, h_k7, h_k8, h_k9, h_k10, h_k11, h_k12, h_k14, h_k16, h_k18, h_k20, h_k23, h_k24, h_k25, h_k32, h_k44, h_k48, h_k50, h_k54, h_k57, h_k58, h_k59, h_k60, h_k63, h_k97, h_k100, h_k122, h_k177, h_k255, h_k400, h_k450, h_k625, h_k649, h_k708, h_k800, h_k900, h_k2500, h_k22500, h_k45000, h_kn1, h_kn2, h_kJ, h_kU, h_eI, h_eL, h_eR, h_eT, h_b1, h_eZ, h_not, h_b2, h_b0, h_b0L, h_gI, h_gL, h_gN, h_gR, h_aI, h_aL, h_aR, h_aLen, h_tern, h_and, h_or, h_vN, h_vI, h_vJ, h_vA, h_cFv, h_cFs, h_toI, h_toL, h_toV, h_nO, h_nA, g_skip, g_brk, g_cnt, g_retV, g_seq, g_if, g_setI, g_setR, g_setL, g_inc, g_putI, g_putZ, g_putL, g_putR, g_upI, g_AI, g_AL, g_AR, g_UA, g_exp, g_retI, g_retL, g_retZ, g_scope, g_unBrk, g_sup, h_fn, argE_n, argE_i, argE_r, argE_l, argE_a, sto_0, sto_s, sto_n0, sto_ns, isL_i, isL_r, isL_n, isL_a, isL_l, isL_0, rcv_r, rcv_a, List.getElem?_cons_zero, List.getElem?_cons_succ, List.getElem?_nil, List.set_cons_zero, List.set_cons_succ, List.take_succ_cons, List.take_zero, List.take_nil, List.length_cons, List.length_nil, List.nil_append, List.cons_append, Nat.reduceAdd, Nat.reduceSub, Nat.reduceLT, Nat.reduceEqDiff, Nat.reduceLeDiff, Nat.zero_add, Nat.lt_irrefl, Nat.succ_sub_one, and_true, true_and, and_false, false_and, not_false_eq_true, not_true_eq_false, Bool.false_eq_true, Bool.not_true, Bool.not_false, Bool.not_eq_true', Bool.true_eq_false, decide_true, decide_false, decide_eq_true_eq, decide_eq_false_iff_not, Option.some.injEq, and_self, Nat.add_one_sub_one, Nat.lt_add_one, Nat.zero_lt_succ, Value.int.injEq, Value.ref.injEq, Value.long.injEq, exists_eq_left', exists_eq_left, Sum.inl.injEq, Sum.inr.injEq, i2z_b2i, h_vS, h_kN, n32_add, n32_mul, n32_inc, n_iEq, n_iNe, n_iLt, n_iLe, n_iGt, n_iGe, n_zEq, n_zLt, n_zLe, n_zGt, n_zGe, n_inb, n32_clamp, tg_pI, tg_pL, tg_pR, vr_pI, vr_pL, vl_pI, vl_pR, vi_pL, vi_pR, mN_pI, mN_pL, mN_pR, mU_pI, mU_pL, mU_pR, mkI, h6.T.t, z1, z5, h6.r4, h6.D.t, c6, h_of e7, h7.T.t, h7.r4, h7.D.t, h7.D.r21, h7.D.t13, h7.D.r22, h7.D.t14, c7, a1, a2, ms4, nar, Nat.reduceEqDiff, if_false, if_true, ← hM8]
    exact G
end
