/-! THE REFERENCE'S READER: woven, the loop -/
section
variable {M : qM} {X C n q : Nat} {tp : Nat → Int32} {σ : Pr Nat} {p : Pl} {lo : Lo} {nm : Nm} {fl : Fl}
theorem lastO_ad {S y : Nat} : lastO (lAdd p lo S y) S 0 = some y := by
  unfold lastO
  have e : lC (lAdd p lo S y) S = lC lo S + 1 := by show u1 (lC lo) S (lC lo S + 1) S = _; unfold u1; rw [if_pos rfl]
  rw [e, if_pos (by omega)]
  show some (u2 (lR lo) S (lC lo S) y S (lC lo S + 1 - 0 - 1)) = _
  unfold u2
  rw [if_pos ⟨rfl, by omega⟩]
def SdI (M0 : qM) (m : qM) (X : Nat) (C : Nat) (p : Pl) (lo : Lo) (lp : Lo) (nm : Nm) (fl : Fl) (S : Nat) : Prop := (LF M0 m X C) ∧ (MQd (pI m (C + 4) S (n32 (lC lp S))) C p lp nm fl) ∧ (LoOK (pK p) lp) ∧ (∀ t, t ≠ S → lC lp t = lC lo t)
theorem SdI.f {M0 : qM} {m : qM} {X : Nat} {C : Nat} {p : Pl} {lo : Lo} {lp : Lo} {nm : Nm} {fl : Fl} {S : Nat} (h : SdI M0 m X C p lo lp nm fl S) : LF M0 m X C := h.1
theorem SdI.Q {M0 : qM} {m : qM} {X : Nat} {C : Nat} {p : Pl} {lo : Lo} {lp : Lo} {nm : Nm} {fl : Fl} {S : Nat} (h : SdI M0 m X C p lo lp nm fl S) : MQd (pI m (C + 4) S (n32 (lC lp S))) C p lp nm fl := h.2.1
theorem SdI.L {M0 : qM} {m : qM} {X : Nat} {C : Nat} {p : Pl} {lo : Lo} {lp : Lo} {nm : Nm} {fl : Fl} {S : Nat} (h : SdI M0 m X C p lo lp nm fl S) : LoOK (pK p) lp := h.2.2.1
theorem SdI.c {M0 : qM} {m : qM} {X : Nat} {C : Nat} {p : Pl} {lo : Lo} {lp : Lo} {nm : Nm} {fl : Fl} {S : Nat} (h : SdI M0 m X C p lo lp nm fl S) : ∀ t, t ≠ S → lC lp t = lC lo t := h.2.2.2
def WvQ (M0 : qM) (X C n : Nat) (tp : Nat → Int32) (p : Pl) (lo : Lo) (nm : Nm) (fl : Fl) (S : Nat) (ρ : Pr (Nat × Lo)) (r : Re) (e : qE) (m : qM) : Prop := ∃ τ, MS m X tp n τ ∧ LF M0 m X C ∧ ((∃ e0, ρ = .inl e0 ∧ τ = .inl e0 ∧ (r = .inr none ∨ (r = .inl 0 ∧ e[0]? = some (.ref X)))) ∨ (∃ q' lo' v w, ρ = .inr (q', lo') ∧ τ = .inr q' ∧ r = .inl 0 ∧ e = [.ref X, .int (n32 S), .int v, .int (n32 (lC lo' S)), .int w] ∧ SdI M0 m X C p lo lo' nm fl S ∧ lC lo' S ≤ 12))
theorem WvQ.r {M0 m : qM} {S : Nat} {ρ : Pr (Nat × Lo)} {e : qE} {e0 : Nat × Nat} (hr : ρ = .inl e0) (s : MS m X tp n (.inl e0)) (f : LF M0 m X C) : WvQ M0 X C n tp p lo nm fl S ρ (.inr none) e m := ⟨.inl e0, s, f, Or.inl ⟨e0, hr, rfl, Or.inl rfl⟩⟩
theorem WvQ.f {M0 m : qM} {S : Nat} {ρ : Pr (Nat × Lo)} {e : qE} {e0 : Nat × Nat} (hr : ρ = .inl e0) (s : MS m X tp n (.inl e0)) (f : LF M0 m X C) (h0 : e[0]? = some (.ref X)) : WvQ M0 X C n tp p lo nm fl S ρ (.inl 0) e m := ⟨.inl e0, s, f, Or.inl ⟨e0, hr, rfl, Or.inr ⟨rfl, h0⟩⟩⟩
theorem WvQ.s {M0 m : qM} {S q' : Nat} {lo' : Lo} {v w : Int32} {ρ : Pr (Nat × Lo)} (hr : ρ = .inr (q', lo')) (s : MS m X tp n (.inr q')) (f : LF M0 m X C) (J : SdI M0 m X C p lo lo' nm fl S) (h12 : lC lo' S ≤ 12) : WvQ M0 X C n tp p lo nm fl S ρ (.inl 0) [.ref X, .int (n32 S), .int v, .int (n32 (lC lo' S)), .int w] m := ⟨.inr q', s, f, Or.inr ⟨q', lo', v, w, hr, rfl, rfl, rfl, J, h12⟩⟩
theorem m_wvL {M0 : qM} {S : Nat} (h0 : MB M0 X C n tp) (s0 : MS M0 X tp n σ) (K : RdOK p lo nm fl) (hS2 : S < 2) (I0 : ∀ q, σ = .inr q → SdI M0 M0 X C p lo lo nm fl S ∧ lC lo S = 0) : hS wvL [.ref X, .int (n32 S), .int (n32 8), .int (n32 0), .int (n32 1)] M0 (WvQ M0 X C n tp p lo nm fl S (pB σ (pSideL tp n p nm S 13 0 lo))) () := by
  have kk := K.O.kinds
  have d := h0.d
  generalize hρ : pB σ (pSideL tp n p nm S 13 0 lo) = ρ
  unfold wvL
  let I : Nat → qE → qM → Prop := fun k e m => ∃ τ, MS m X tp n τ ∧ LF M0 m X C ∧ ((∃ q' lo', τ = .inr q' ∧ k + lC lo' S = 13 ∧ lC lo' S ≤ 12 ∧ e = [.ref X, .int (n32 S), .int (oM (lastO lo' S 0)), .int (n32 (lC lo' S)), .int (b2i true)] ∧ ρ = pSideL tp n p nm S k (lC lo' S) lo' q' ∧ SdI M0 m X C p lo lo' nm fl S) ∨ (k = 0 ∧ ∃ e0 b v i, τ = .inl e0 ∧ ρ = .inl e0 ∧ e = [.ref X, .int (n32 S), .int v, .int i, .int (b2i b)]) ∨ (k = 0 ∧ ∃ q' lo', τ = .inr q' ∧ ρ = .inr (q', lo') ∧ lC lo' S ≤ 12 ∧ e = [.ref X, .int (n32 S), .int (oM (lastO lo' S 0)), .int (n32 (lC lo' S)), .int (b2i false)] ∧ SdI M0 m X C p lo lo' nm fl S))
  have start : ∃ k, I k [.ref X, .int (n32 S), .int (n32 8), .int (n32 0), .int (n32 1)] M0 := by
    cases σ with
    | inl e => exact ⟨0, .inl e, s0, ⟨Fr.refl _ _, fun _ _ => rfl⟩, Or.inr (Or.inl ⟨rfl, e, true, _, _, rfl, hρ.symm, rfl⟩)⟩
    | inr q =>
      obtain ⟨J, z⟩ := I0 q rfl
      have l0 : lastO lo S 0 = none := by unfold lastO; rw [if_neg (by omega)]
      refine ⟨13, .inr q, s0, ⟨Fr.refl _ _, fun _ _ => rfl⟩, Or.inl ⟨q, lo, rfl, by omega, by omega, ?_, ?_, J⟩⟩
      · rw [l0, z]; rfl
      · rw [z]; exact hρ.symm
  obtain ⟨k0, hk0⟩ := start
  refine h_dn I k0 hk0 ?_
  intro k e m ⟨τ, sm, fm, md⟩
  have hm := fm.mb h0
  rcases md with ⟨q', lo', rfl, hk, h12, rfl, hr, J⟩ | ⟨rfl, e0, b, v, i, rfl, hr, rfl⟩ | ⟨rfl, q', lo', rfl, hr, h12, rfl, J⟩
  · obtain ⟨k', rfl⟩ : ∃ k', k = k' + 1 := ⟨k - 1, by omega⟩
    have VN := J.Q.N
    have Nm : NmR m C nm := ⟨by have := VN.nn; rw [vi_ne (by omega)] at this; exact this, VN.n14, fun i hi => by have := VN.nw i hi; rw [vi_ne (by omega), vi_ne (by omega)] at this; exact this, VN.ok⟩
    obtain ⟨y, M1, e1, f1, y8, s1, r1⟩ := m_known hm sm Nm (z := 1) (by decide)
    have h1 := f1.mb hm
    obtain ⟨M2, f2, s2, e2⟩ := m_cIf h1 s1 (c := wv2) (e := [.ref X, .int (n32 S), .int (oM (lastO lo' S 0)), .int (n32 (lC lo' S)), .int (b2i true), .int (n32 y)]) (b := decide (lC lo' S = 12)) 5 5 rfl rfl (fun Q => by unfold wv2; simp (disch := omega) only [hR_d, hT_d, hI_t, hI_f, hVI_s, hVL_s, hVR_s, hVT_s, hVV_s, hO_s, hB_0, hB_1, hB_2, hB_r, hU_0, hU_1, hU_2, hU_r, hX_r, hL_0, hL_1, hL_2, hL_r, hC_s, h_k0, h_k1, h_k2, h_k3, h_k4, h_k5, h_k6, h_k7, h_k8, h_k9, h_k10, h_k11, h_k12, h_k14, h_k16, h_k18, h_k20, h_k23, h_k24, h_k25, h_k32, h_k44, h_k48, h_k50, h_k54, h_k57, h_k58, h_k59, h_k60, h_k63, h_k97, h_k100, h_k122, h_k177, h_k255, h_k400, h_k450, h_k625, h_k649, h_k708, h_k800, h_k900, h_k2500, h_k22500, h_k45000, h_kn1, h_kn2, h_kJ, h_kU, h_eI, h_eL, h_eR, h_eT, h_b1, h_eZ, h_not, h_b2, h_b0, h_b0L, h_gI, h_gL, h_gN, h_gR, h_aI, h_aL, h_aR, h_aLen, h_tern, h_and, h_or, h_vN, h_vI, h_vJ, h_vA, h_cFv, h_cFs, h_toI, h_toL, h_toV, h_nO, h_nA, g_skip, g_brk, g_cnt, g_retV, g_seq, g_if, g_setI, g_setR, g_setL, g_inc, g_putI, g_putZ, g_putL, g_putR, g_upI, g_AI, g_AL, g_AR, g_UA, g_exp, g_retI, g_retL, g_retZ, g_scope, g_unBrk, g_sup, h_fn, argE_n, argE_i, argE_r, argE_l, argE_a, sto_0, sto_s, sto_n0, sto_ns, isL_i, isL_r, isL_n, isL_a, isL_l, isL_0, rcv_r, rcv_a, List.getElem?_cons_zero, List.getElem?_cons_succ, List.getElem?_nil, List.set_cons_zero, List.set_cons_succ, List.take_succ_cons, List.take_zero, List.take_nil, List.length_cons, List.length_nil, List.nil_append, List.cons_append, Nat.reduceAdd, Nat.reduceSub, Nat.reduceLT, Nat.reduceEqDiff, Nat.reduceLeDiff, Nat.zero_add, Nat.lt_irrefl, Nat.succ_sub_one, and_true, true_and, and_false, false_and, not_false_eq_true, not_true_eq_false, Bool.false_eq_true, Bool.not_true, Bool.not_false, Bool.not_eq_true', Bool.true_eq_false, decide_true, decide_false, decide_eq_true_eq, decide_eq_false_iff_not, Option.some.injEq, and_self, Nat.add_one_sub_one, Nat.lt_add_one, Nat.zero_lt_succ, Value.int.injEq, Value.ref.injEq, Value.long.injEq, exists_eq_left', exists_eq_left, Sum.inl.injEq, Sum.inr.injEq, i2z_b2i, h_vS, h_kN, n_iEq, n_iNe, n_iLt, n_iLe, n_iGt, n_iGe, n_zEq, n_zLt, n_zLe, n_zGt, n_zGe, n_inb, n32_clamp])
    have h2 := f2.mb h1
    have f12 := f1.trans f2
    have Q2 := J.Q.px hm f12
    have row : ∀ q'', fwS tp n 5 (decide (lC lo' S = 12)) (knS tp n nm 1 (.inr q')) = .inr q'' → pKn tp n nm 1 q' = .inr y ∧ lC lo' S ≠ 12 ∧ q'' = q' := fun q'' hq => by
      cases y1 : pKn tp n nm 1 q' with
      | inl e0 => rw [knS_f y1, fwS_l] at hq; cases hq
      | inr y' =>
        rw [knS_s y1] at hq
        have ey := r1 q' y' rfl y1
        subst ey
        by_cases z : lC lo' S = 12
        · rw [decide_eq_true z, fwS_t] at hq; cases hq
        · rw [decide_eq_false z, fwS_f] at hq; cases hq; exact ⟨rfl, z, rfl⟩
    obtain ⟨b7, c7, v7⟩ := m_wv3 (b := true) (i := lC lo' S) h2 s2 Q2 K.O J.L hS2 y8 h12 (fun q'' hq => pKn_row K (row q'' hq).1)
    obtain ⟨M3, f3, s3, e3⟩ := m_cIf h2 s2 7 7 rfl rfl c7
    have h3 := f3.mb h2
    obtain ⟨M4, e4, f4, s4⟩ := m_gos h3 s3 (ok_f (ok_f ok_kn))
    have h4 := f4.mb h3
    have f14 := (f12.trans f3).trans f4
    have Q4 := J.Q.px hm f14
    obtain ⟨z, z1, z2, z3⟩ := sm.o
    have z5 : ¬ z = 5 := of_decide_eq_false z3
    obtain ⟨w, w1, w2, w3⟩ := s4.o
    have E2 : ∀ (Q : Re → qE → qM → Prop) (u : Hd (wvI2, Q)), hS wvI2 _ M1 Q u = Q (.inl 0) _ M2 := e2
    have E3 : ∀ (Q : Re → qE → qM → Prop) (u : Hd (wvI3, Q)), hS wvI3 _ M2 Q u = Q (.inl 0) _ M3 := e3
    have c9 : inb (n32 y) 8 = true := by rw [n_inb (by omega)]; exact decide_eq_true y8
    simp (disch := omega) only [hR_d, hT_d, hI_t, hI_f, hVI_s, hVL_s, hVR_s, hVT_s, hVV_s, hO_s, hB_0, hB_1, hB_2, hB_r, hU_0, hU_1, hU_2, hU_r, hX_r, hL_0, hL_1, hL_2, hL_r, hC_s, h_k0, h_k1, h_k2, h_k3, h_k4, h_k5, h_k6, h_k7, h_k8, h_k9, h_k10, h_k11, h_k12, h_k14, h_k16, h_k18, h_k20, h_k23, h_k24, h_k25, h_k32, h_k44, h_k48, h_k50, h_k54, h_k57, h_k58, h_k59, h_k60, h_k63, h_k97, h_k100, h_k122, h_k177, h_k255, h_k400, h_k450, h_k625, h_k649, h_k708, h_k800, h_k900, h_k2500, h_k22500, h_k45000, h_kn1, h_kn2, h_kJ, h_kU, h_eI, h_eL, h_eR, h_eT, h_b1, h_eZ, h_not, h_b2, h_b0, h_b0L, h_gI, h_gL, h_gN, h_gR, h_aI, h_aL, h_aR, h_aLen, h_tern, h_and, h_or, h_vN, h_vI, h_vJ, h_vA, h_cFv, h_cFs, h_toI, h_toL, h_toV, h_nO, h_nA, g_skip, g_brk, g_cnt, g_retV, g_seq, g_if, g_setI, g_setR, g_setL, g_inc, g_putI, g_putZ, g_putL, g_putR, g_upI, g_AI, g_AL, g_AR, g_UA, g_exp, g_retI, g_retL, g_retZ, g_scope, g_unBrk, g_sup, h_fn, argE_n, argE_i, argE_r, argE_l, argE_a, sto_0, sto_s, sto_n0, sto_ns, isL_i, isL_r, isL_n, isL_a, isL_l, isL_0, rcv_r, rcv_a, List.getElem?_cons_zero, List.getElem?_cons_succ, List.getElem?_nil, List.set_cons_zero, List.set_cons_succ, List.take_succ_cons, List.take_zero, List.take_nil, List.length_cons, List.length_nil, List.nil_append, List.cons_append, Nat.reduceAdd, Nat.reduceSub, Nat.reduceLT, Nat.reduceEqDiff, Nat.reduceLeDiff, Nat.zero_add, Nat.lt_irrefl, Nat.succ_sub_one, and_true, true_and, and_false, false_and, not_false_eq_true, not_true_eq_false, Bool.false_eq_true, Bool.not_true, Bool.not_false, Bool.not_eq_true', Bool.true_eq_false, decide_true, decide_false, decide_eq_true_eq, decide_eq_false_iff_not, Option.some.injEq, and_self, Nat.add_one_sub_one, Nat.lt_add_one, Nat.zero_lt_succ, Value.int.injEq, Value.ref.injEq, Value.long.injEq, exists_eq_left', exists_eq_left, Sum.inl.injEq, Sum.inr.injEq, i2z_b2i, h_vS, h_kN, n32_add, n32_mul, n32_inc, n_iEq, n_iNe, n_iLt, n_iLe, n_iGt, n_iGe, n_zEq, n_zLt, n_zLe, n_zGt, n_zGe, n_inb, n32_clamp, hm.T.t, ne_eq, z1, z5, h_of e1, h1.T.t, E2, h2.T.t, h2.r4, h2.D.t, h2.D.r17, h2.D.t9, y8, E3, h3.T.t, h_of e4, h4.T.t, w1]
    have fin : ∀ e0, ρ = .inl e0 → gos tp n (fwS tp n 7 b7 (fwS tp n 5 (decide (lC lo' S = 12)) (knS tp n nm 1 (.inr q')))) = .inl e0 → w = 5 ∧ MS M4 X tp n (.inl e0) := fun e0 r g => by
      rw [g] at s4 w3
      exact ⟨of_decide_eq_true w3, s4⟩
    have F4 : LF M0 M4 X C := fm.trans (f14.lf C)
    have hr2 := hr
    rw [pSideL_s] at hr2
    cases y1 : pKn tp n nm 1 q' with
    | inl e0 =>
      simp only [y1, pB_l] at hr2
      obtain ⟨w5, s5⟩ := fin e0 hr2 (by rw [knS_f y1, fwS_l, fwS_l, gos_l])
      simp only [hR_d, hT_d, hI_t, hI_f, hVI_s, hVL_s, hVR_s, hVT_s, hVV_s, hO_s, hB_0, hB_1, hB_2, hB_r, hU_0, hU_1, hU_2, hU_r, hX_r, hL_0, hL_1, hL_2, hL_r, hC_s, h_k0, h_k1, h_k2, h_k3, h_k4, h_k5, h_k6, h_k7, h_k8, h_k9, h_k10, h_k11, h_k12, h_k14, h_k16, h_k18, h_k20, h_k23, h_k24, h_k25, h_k32, h_k44, h_k48, h_k50, h_k54, h_k57, h_k58, h_k59, h_k60, h_k63, h_k97, h_k100, h_k122, h_k177, h_k255, h_k400, h_k450, h_k625, h_k649, h_k708, h_k800, h_k900, h_k2500, h_k22500, h_k45000, h_kn1, h_kn2, h_kJ, h_kU, h_eI, h_eL, h_eR, h_eT, h_b1, h_eZ, h_not, h_b2, h_b0, h_b0L, h_gI, h_gL, h_gN, h_gR, h_aI, h_aL, h_aR, h_aLen, h_tern, h_and, h_or, h_vN, h_vI, h_vJ, h_vA, h_cFv, h_cFs, h_toI, h_toL, h_toV, h_nO, h_nA, g_skip, g_brk, g_cnt, g_retV, g_seq, g_if, g_setI, g_setR, g_setL, g_inc, g_putI, g_putZ, g_putL, g_putR, g_upI, g_AI, g_AL, g_AR, g_UA, g_exp, g_retI, g_retL, g_retZ, g_scope, g_unBrk, g_sup, h_fn, argE_n, argE_i, argE_r, argE_l, argE_a, sto_0, sto_s, sto_n0, sto_ns, isL_i, isL_r, isL_n, isL_a, isL_l, isL_0, rcv_r, rcv_a, List.getElem?_cons_zero, List.getElem?_cons_succ, List.getElem?_nil, List.set_cons_zero, List.set_cons_succ, List.take_succ_cons, List.take_zero, List.take_nil, List.length_cons, List.length_nil, List.nil_append, List.cons_append, Nat.reduceAdd, Nat.reduceSub, Nat.reduceLT, Nat.reduceEqDiff, Nat.reduceLeDiff, Nat.zero_add, Nat.lt_irrefl, Nat.succ_sub_one, and_true, true_and, and_false, false_and, not_false_eq_true, not_true_eq_false, Bool.false_eq_true, Bool.not_true, Bool.not_false, Bool.not_eq_true', Bool.true_eq_false, decide_true, decide_false, decide_eq_true_eq, decide_eq_false_iff_not, Option.some.injEq, and_self, Nat.add_one_sub_one, Nat.lt_add_one, Nat.zero_lt_succ, Value.int.injEq, Value.ref.injEq, Value.long.injEq, exists_eq_left', exists_eq_left, Sum.inl.injEq, Sum.inr.injEq, i2z_b2i, h_vS, h_kN, w5]
      exact WvQ.r hr2 s5 F4
    | inr y' =>
    have ey := r1 q' y' rfl y1
    subst ey
    simp only [y1, pB_r] at hr2
    by_cases i12 : lC lo' S = 12
    · rw [if_pos i12] at hr2
      obtain ⟨w5, s5⟩ := fin _ hr2 (by rw [knS_s y1, decide_eq_true i12, fwS_t]; show gos tp n (fwS tp n 7 b7 (.inl (5, tkP tp n q'))) = _; rw [fwS_l]; rfl)
      simp only [hR_d, hT_d, hI_t, hI_f, hVI_s, hVL_s, hVR_s, hVT_s, hVV_s, hO_s, hB_0, hB_1, hB_2, hB_r, hU_0, hU_1, hU_2, hU_r, hX_r, hL_0, hL_1, hL_2, hL_r, hC_s, h_k0, h_k1, h_k2, h_k3, h_k4, h_k5, h_k6, h_k7, h_k8, h_k9, h_k10, h_k11, h_k12, h_k14, h_k16, h_k18, h_k20, h_k23, h_k24, h_k25, h_k32, h_k44, h_k48, h_k50, h_k54, h_k57, h_k58, h_k59, h_k60, h_k63, h_k97, h_k100, h_k122, h_k177, h_k255, h_k400, h_k450, h_k625, h_k649, h_k708, h_k800, h_k900, h_k2500, h_k22500, h_k45000, h_kn1, h_kn2, h_kJ, h_kU, h_eI, h_eL, h_eR, h_eT, h_b1, h_eZ, h_not, h_b2, h_b0, h_b0L, h_gI, h_gL, h_gN, h_gR, h_aI, h_aL, h_aR, h_aLen, h_tern, h_and, h_or, h_vN, h_vI, h_vJ, h_vA, h_cFv, h_cFs, h_toI, h_toL, h_toV, h_nO, h_nA, g_skip, g_brk, g_cnt, g_retV, g_seq, g_if, g_setI, g_setR, g_setL, g_inc, g_putI, g_putZ, g_putL, g_putR, g_upI, g_AI, g_AL, g_AR, g_UA, g_exp, g_retI, g_retL, g_retZ, g_scope, g_unBrk, g_sup, h_fn, argE_n, argE_i, argE_r, argE_l, argE_a, sto_0, sto_s, sto_n0, sto_ns, isL_i, isL_r, isL_n, isL_a, isL_l, isL_0, rcv_r, rcv_a, List.getElem?_cons_zero, List.getElem?_cons_succ, List.getElem?_nil, List.set_cons_zero, List.set_cons_succ, List.take_succ_cons, List.take_zero, List.take_nil, List.length_cons, List.length_nil, List.nil_append, List.cons_append, Nat.reduceAdd, Nat.reduceSub, Nat.reduceLT, Nat.reduceEqDiff, Nat.reduceLeDiff, Nat.zero_add, Nat.lt_irrefl, Nat.succ_sub_one, and_true, true_and, and_false, false_and, not_false_eq_true, not_true_eq_false, Bool.false_eq_true, Bool.not_true, Bool.not_false, Bool.not_eq_true', Bool.true_eq_false, decide_true, decide_false, decide_eq_true_eq, decide_eq_false_iff_not, Option.some.injEq, and_self, Nat.add_one_sub_one, Nat.lt_add_one, Nat.zero_lt_succ, Value.int.injEq, Value.ref.injEq, Value.long.injEq, exists_eq_left', exists_eq_left, Sum.inl.injEq, Sum.inr.injEq, i2z_b2i, h_vS, h_kN, w5]
      exact WvQ.r hr2 s5 F4
    · rw [if_neg i12] at hr2
      rw [knS_s y1, decide_eq_false i12, fwS_f] at v7 fin s4 w3
      have hb7 := v7 q' rfl
      by_cases hd : hind p lo' S y = 0
      · rw [if_pos hd] at hr2
        have hb0 : b7 = false := hb7.trans (decide_eq_false (fun z => z hd))
        rw [hb0, fwS_f, gos_r] at s4 w3
        have w5 : ¬ w = 5 := of_decide_eq_false w3
        have yK := pKn_row K y1
        have V4 := Q4.un (a := 0)
        have V2 := Q2.un (a := 0)
        have hcl := K.O.col y yK
        have hcs := K.O.cols
        have htk := K.O.tk y yK
        have hst := J.L.st S (pCol p y) hS2 (by omega)
        have le : pTk p y ≤ lS lo' S (pCol p y) := by
          unfold hind at hd
          split at hd
          · cases hd
          · split at hd
            · cases hd
            · split at hd
              · cases hd
              · omega
        have st : vi M4 (C + 2) (2 * S + pCol p y) = n32 (lS lo' S (pCol p y)) := by
          have := Q4.st S (pCol p y) hS2 (by omega)
          rw [vi_ne (by omega)] at this; exact this
        obtain ⟨M5, hM5⟩ : ∃ M5, M5 = pI (pI M4 (C + 2) (2 * S + pCol p y) (n32 (lS lo' S (pCol p y) - pTk p y))) (C + 3) (12 * S + lC lo' S) (n32 y) := ⟨_, rfl⟩
        have Q5 := Q4.add K.O hS2 yK rfl (by omega) (fun u hu ne => by rw [J.c u ne]; exact K.s12 u hu) hM5
        have k5 : ∀ j, vi M5 X j = vi M4 X j := fun j => by rw [hM5, vi_ne (by omega), vi_ne (by omega)]
        have F5' : LF M4 M5 X C := by
          refine ⟨?_, fun j hj => k5 j⟩
          rw [hM5]
          exact ((Fr.refl (mS X C) M4).pI _ _ (Or.inr ⟨by omega, by omega⟩)).pI _ _ (Or.inr ⟨by omega, by omega⟩)
        have h5 := F5'.mb h4
        have s5 : MS M5 X tp n (.inr (tkE tp n q')) := s4.mv k5 (by rw [hM5]; rfl)
        obtain ⟨M6, e6, f6, s6⟩ := m_eatsS h5 s5 (c := 44) (k := 4) (Or.inr ⟨rfl, rfl⟩)
        have Q6 := Q5.px h5 f6
        have F6 : LF M0 M6 X C := (F4.trans F5').trans (f6.lf C)
        have L6 : LoOK (pK p) (lAdd p lo' S y) := J.L.add yK (by omega) hS2 (by omega)
        have J6 : SdI M0 M6 X C p lo (lAdd p lo' S y) nm fl S := ⟨F6, Q6, L6, fun t ht => by rw [lC_addN p lo' y ht]; exact J.c t ht⟩
        have hcA := lC_add p lo' S y
        unfold wvW
        simp (disch := omega) only [hR_d, hT_d, hI_t, hI_f, hVI_s, hVL_s, hVR_s, hVT_s, hVV_s, hO_s, hB_0, hB_1, hB_2, hB_r, hU_0, hU_1, hU_2, hU_r, hX_r, hL_0, hL_1, hL_2, hL_r, hC_s, h_k0, h_k1, h_k2, h_k3, h_k4, h_k5, h_k6, h_k7, h_k8, h_k9, h_k10, h_k11, h_k12, h_k14, h_k16, h_k18, h_k20, h_k23, h_k24, h_k25, h_k32, h_k44, h_k48, h_k50, h_k54, h_k57, h_k58, h_k59, h_k60, h_k63, h_k97, h_k100, h_k122, h_k177, h_k255, h_k400, h_k450, h_k625, h_k649, h_k708, h_k800, h_k900, h_k2500, h_k22500, h_k45000, h_kn1, h_kn2, h_kJ, h_kU, h_eI, h_eL, h_eR, h_eT, h_b1, h_eZ, h_not, h_b2, h_b0, h_b0L, h_gI, h_gL, h_gN, h_gR, h_aI, h_aL, h_aR, h_aLen, h_tern, h_and, h_or, h_vN, h_vI, h_vJ, h_vA, h_cFv, h_cFs, h_toI, h_toL, h_toV, h_nO, h_nA, g_skip, g_brk, g_cnt, g_retV, g_seq, g_if, g_setI, g_setR, g_setL, g_inc, g_putI, g_putZ, g_putL, g_putR, g_upI, g_AI, g_AL, g_AR, g_UA, g_exp, g_retI, g_retL, g_retZ, g_scope, g_unBrk, g_sup, h_fn, argE_n, argE_i, argE_r, argE_l, argE_a, sto_0, sto_s, sto_n0, sto_ns, isL_i, isL_r, isL_n, isL_a, isL_l, isL_0, rcv_r, rcv_a, List.getElem?_cons_zero, List.getElem?_cons_succ, List.getElem?_nil, List.set_cons_zero, List.set_cons_succ, List.take_succ_cons, List.take_zero, List.take_nil, List.length_cons, List.length_nil, List.nil_append, List.cons_append, Nat.reduceAdd, Nat.reduceSub, Nat.reduceLT, Nat.reduceEqDiff, Nat.reduceLeDiff, Nat.zero_add, Nat.lt_irrefl, Nat.succ_sub_one, and_true, true_and, and_false, false_and, not_false_eq_true, not_true_eq_false, Bool.false_eq_true, Bool.not_true, Bool.not_false, Bool.not_eq_true', Bool.true_eq_false, decide_true, decide_false, decide_eq_true_eq, decide_eq_false_iff_not, Option.some.injEq, and_self, Nat.add_one_sub_one, Nat.lt_add_one, Nat.zero_lt_succ, Value.int.injEq, Value.ref.injEq, Value.long.injEq, exists_eq_left', exists_eq_left, Sum.inl.injEq, Sum.inr.injEq, i2z_b2i, h_vS, h_kN, n32_add, n32_mul, n32_inc, n_iEq, n_iNe, n_iLt, n_iLe, n_iGt, n_iGe, n_zEq, n_zLt, n_zLe, n_zGt, n_zGe, n_inb, n32_clamp, tg_pI, tg_pL, tg_pR, vr_pI, vr_pL, vl_pI, vl_pR, vi_pL, vi_pR, mN_pI, mN_pL, mN_pR, mU_pI, mU_pL, mU_pR, w5, h4.T.t, h4.r4, h4.D.t, h4.D.r10, h4.D.t2, h4.D.r18, h4.D.t10, V2.col y yK, V4.tk y yK, st, n32_sub, h4.D.r11, h4.D.t3, nar, Nat.reduceEqDiff, if_false, ← hM5, h5.T.t, h_of e6]
        refine ⟨by omega, by omega, by omega, by omega, ?_⟩
        rw [sgB_r] at s6 ⊢
        by_cases c4 : tkK tp n (tkE tp n q') = 4
        · rw [if_pos c4] at hr2
          rw [decide_eq_true c4, if_pos rfl, gos_r] at s6
          rw [decide_eq_true c4]
          refine ⟨k', by omega, _, s6, F6, Or.inl ⟨_, lAdd p lo' S y, rfl, by omega, by omega, ?_, ?_, J6⟩⟩
          · rw [lastO_ad, hcA]; rfl
          · rw [hcA]; exact hr2
        · rw [if_neg c4] at hr2
          rw [decide_eq_false c4, if_neg (by decide)] at s6
          rw [decide_eq_false c4]
          refine ⟨0, by omega, _, s6, F6, Or.inr (Or.inr ⟨rfl, _, lAdd p lo' S y, rfl, hr2, by omega, ?_, J6⟩)⟩
          rw [lastO_ad, hcA]; rfl
      · rw [if_neg hd] at hr2
        obtain ⟨w5, s5⟩ := fin _ hr2 (by rw [hb7, decide_eq_true hd, fwS_t]; rfl)
        simp only [hR_d, hT_d, hI_t, hI_f, hVI_s, hVL_s, hVR_s, hVT_s, hVV_s, hO_s, hB_0, hB_1, hB_2, hB_r, hU_0, hU_1, hU_2, hU_r, hX_r, hL_0, hL_1, hL_2, hL_r, hC_s, h_k0, h_k1, h_k2, h_k3, h_k4, h_k5, h_k6, h_k7, h_k8, h_k9, h_k10, h_k11, h_k12, h_k14, h_k16, h_k18, h_k20, h_k23, h_k24, h_k25, h_k32, h_k44, h_k48, h_k50, h_k54, h_k57, h_k58, h_k59, h_k60, h_k63, h_k97, h_k100, h_k122, h_k177, h_k255, h_k400, h_k450, h_k625, h_k649, h_k708, h_k800, h_k900, h_k2500, h_k22500, h_k45000, h_kn1, h_kn2, h_kJ, h_kU, h_eI, h_eL, h_eR, h_eT, h_b1, h_eZ, h_not, h_b2, h_b0, h_b0L, h_gI, h_gL, h_gN, h_gR, h_aI, h_aL, h_aR, h_aLen, h_tern, h_and, h_or, h_vN, h_vI, h_vJ, h_vA, h_cFv, h_cFs, h_toI, h_toL, h_toV, h_nO, h_nA, g_skip, g_brk, g_cnt, g_retV, g_seq, g_if, g_setI, g_setR, g_setL, g_inc, g_putI, g_putZ, g_putL, g_putR, g_upI, g_AI, g_AL, g_AR, g_UA, g_exp, g_retI, g_retL, g_retZ, g_scope, g_unBrk, g_sup, h_fn, argE_n, argE_i, argE_r, argE_l, argE_a, sto_0, sto_s, sto_n0, sto_ns, isL_i, isL_r, isL_n, isL_a, isL_l, isL_0, rcv_r, rcv_a, List.getElem?_cons_zero, List.getElem?_cons_succ, List.getElem?_nil, List.set_cons_zero, List.set_cons_succ, List.take_succ_cons, List.take_zero, List.take_nil, List.length_cons, List.length_nil, List.nil_append, List.cons_append, Nat.reduceAdd, Nat.reduceSub, Nat.reduceLT, Nat.reduceEqDiff, Nat.reduceLeDiff, Nat.zero_add, Nat.lt_irrefl, Nat.succ_sub_one, and_true, true_and, and_false, false_and, not_false_eq_true, not_true_eq_false, Bool.false_eq_true, Bool.not_true, Bool.not_false, Bool.not_eq_true', Bool.true_eq_false, decide_true, decide_false, decide_eq_true_eq, decide_eq_false_iff_not, Option.some.injEq, and_self, Nat.add_one_sub_one, Nat.lt_add_one, Nat.zero_lt_succ, Value.int.injEq, Value.ref.injEq, Value.long.injEq, exists_eq_left', exists_eq_left, Sum.inl.injEq, Sum.inr.injEq, i2z_b2i, h_vS, h_kN, w5]
        exact WvQ.r hr2 s5 F4
  · have s9 := sm.1
    cases b
    · simp (disch := omega) only [hR_d, hT_d, hI_t, hI_f, hVI_s, hVL_s, hVR_s, hVT_s, hVV_s, hO_s, hB_0, hB_1, hB_2, hB_r, hU_0, hU_1, hU_2, hU_r, hX_r, hL_0, hL_1, hL_2, hL_r, hC_s, h_k0, h_k1, h_k2, h_k3, h_k4, h_k5, h_k6, h_k7, h_k8, h_k9, h_k10, h_k11, h_k12, h_k14, h_k16, h_k18, h_k20, h_k23, h_k24, h_k25, h_k32, h_k44, h_k48, h_k50, h_k54, h_k57, h_k58, h_k59, h_k60, h_k63, h_k97, h_k100, h_k122, h_k177, h_k255, h_k400, h_k450, h_k625, h_k649, h_k708, h_k800, h_k900, h_k2500, h_k22500, h_k45000, h_kn1, h_kn2, h_kJ, h_kU, h_eI, h_eL, h_eR, h_eT, h_b1, h_eZ, h_not, h_b2, h_b0, h_b0L, h_gI, h_gL, h_gN, h_gR, h_aI, h_aL, h_aR, h_aLen, h_tern, h_and, h_or, h_vN, h_vI, h_vJ, h_vA, h_cFv, h_cFs, h_toI, h_toL, h_toV, h_nO, h_nA, g_skip, g_brk, g_cnt, g_retV, g_seq, g_if, g_setI, g_setR, g_setL, g_inc, g_putI, g_putZ, g_putL, g_putR, g_upI, g_AI, g_AL, g_AR, g_UA, g_exp, g_retI, g_retL, g_retZ, g_scope, g_unBrk, g_sup, h_fn, argE_n, argE_i, argE_r, argE_l, argE_a, sto_0, sto_s, sto_n0, sto_ns, isL_i, isL_r, isL_n, isL_a, isL_l, isL_0, rcv_r, rcv_a, List.getElem?_cons_zero, List.getElem?_cons_succ, List.getElem?_nil, List.set_cons_zero, List.set_cons_succ, List.take_succ_cons, List.take_zero, List.take_nil, List.length_cons, List.length_nil, List.nil_append, List.cons_append, Nat.reduceAdd, Nat.reduceSub, Nat.reduceLT, Nat.reduceEqDiff, Nat.reduceLeDiff, Nat.zero_add, Nat.lt_irrefl, Nat.succ_sub_one, and_true, true_and, and_false, false_and, not_false_eq_true, not_true_eq_false, Bool.false_eq_true, Bool.not_true, Bool.not_false, Bool.not_eq_true', Bool.true_eq_false, decide_true, decide_false, decide_eq_true_eq, decide_eq_false_iff_not, Option.some.injEq, and_self, Nat.add_one_sub_one, Nat.lt_add_one, Nat.zero_lt_succ, Value.int.injEq, Value.ref.injEq, Value.long.injEq, exists_eq_left', exists_eq_left, Sum.inl.injEq, Sum.inr.injEq, i2z_b2i, h_vS, h_kN, n32_add, n32_mul, n32_inc, n_iEq, n_iNe, n_iLt, n_iLe, n_iGt, n_iGe, n_zEq, n_zLt, n_zLe, n_zGt, n_zGe, n_inb, n32_clamp, hm.T.t, ne_eq, s9]
      exact WvQ.f hr sm fm rfl
    · simp (disch := omega) only [hR_d, hT_d, hI_t, hI_f, hVI_s, hVL_s, hVR_s, hVT_s, hVV_s, hO_s, hB_0, hB_1, hB_2, hB_r, hU_0, hU_1, hU_2, hU_r, hX_r, hL_0, hL_1, hL_2, hL_r, hC_s, h_k0, h_k1, h_k2, h_k3, h_k4, h_k5, h_k6, h_k7, h_k8, h_k9, h_k10, h_k11, h_k12, h_k14, h_k16, h_k18, h_k20, h_k23, h_k24, h_k25, h_k32, h_k44, h_k48, h_k50, h_k54, h_k57, h_k58, h_k59, h_k60, h_k63, h_k97, h_k100, h_k122, h_k177, h_k255, h_k400, h_k450, h_k625, h_k649, h_k708, h_k800, h_k900, h_k2500, h_k22500, h_k45000, h_kn1, h_kn2, h_kJ, h_kU, h_eI, h_eL, h_eR, h_eT, h_b1, h_eZ, h_not, h_b2, h_b0, h_b0L, h_gI, h_gL, h_gN, h_gR, h_aI, h_aL, h_aR, h_aLen, h_tern, h_and, h_or, h_vN, h_vI, h_vJ, h_vA, h_cFv, h_cFs, h_toI, h_toL, h_toV, h_nO, h_nA, g_skip, g_brk, g_cnt, g_retV, g_seq, g_if, g_setI, g_setR, g_setL, g_inc, g_putI, g_putZ, g_putL, g_putR, g_upI, g_AI, g_AL, g_AR, g_UA, g_exp, g_retI, g_retL, g_retZ, g_scope, g_unBrk, g_sup, h_fn, argE_n, argE_i, argE_r, argE_l, argE_a, sto_0, sto_s, sto_n0, sto_ns, isL_i, isL_r, isL_n, isL_a, isL_l, isL_0, rcv_r, rcv_a, List.getElem?_cons_zero, List.getElem?_cons_succ, List.getElem?_nil, List.set_cons_zero, List.set_cons_succ, List.take_succ_cons, List.take_zero, List.take_nil, List.length_cons, List.length_nil, List.nil_append, List.cons_append, Nat.reduceAdd, Nat.reduceSub, Nat.reduceLT, Nat.reduceEqDiff, Nat.reduceLeDiff, Nat.zero_add, Nat.lt_irrefl, Nat.succ_sub_one, and_true, true_and, and_false, false_and, not_false_eq_true, not_true_eq_false, Bool.false_eq_true, Bool.not_true, Bool.not_false, Bool.not_eq_true', Bool.true_eq_false, decide_true, decide_false, decide_eq_true_eq, decide_eq_false_iff_not, Option.some.injEq, and_self, Nat.add_one_sub_one, Nat.lt_add_one, Nat.zero_lt_succ, Value.int.injEq, Value.ref.injEq, Value.long.injEq, exists_eq_left', exists_eq_left, Sum.inl.injEq, Sum.inr.injEq, i2z_b2i, h_vS, h_kN, n32_add, n32_mul, n32_inc, n_iEq, n_iNe, n_iLt, n_iLe, n_iGt, n_iGe, n_zEq, n_zLt, n_zLe, n_zGt, n_zGe, n_inb, n32_clamp, hm.T.t, ne_eq, s9]
      exact WvQ.f hr sm fm rfl
  · simp (disch := omega) only [hR_d, hT_d, hI_t, hI_f, hVI_s, hVL_s, hVR_s, hVT_s, hVV_s, hO_s, hB_0, hB_1, hB_2, hB_r, hU_0, hU_1, hU_2, hU_r, hX_r, hL_0, hL_1, hL_2, hL_r, hC_s, h_k0, h_k1, h_k2, h_k3, h_k4, h_k5, h_k6, h_k7, h_k8, h_k9, h_k10, h_k11, h_k12, h_k14, h_k16, h_k18, h_k20, h_k23, h_k24, h_k25, h_k32, h_k44, h_k48, h_k50, h_k54, h_k57, h_k58, h_k59, h_k60, h_k63, h_k97, h_k100, h_k122, h_k177, h_k255, h_k400, h_k450, h_k625, h_k649, h_k708, h_k800, h_k900, h_k2500, h_k22500, h_k45000, h_kn1, h_kn2, h_kJ, h_kU, h_eI, h_eL, h_eR, h_eT, h_b1, h_eZ, h_not, h_b2, h_b0, h_b0L, h_gI, h_gL, h_gN, h_gR, h_aI, h_aL, h_aR, h_aLen, h_tern, h_and, h_or, h_vN, h_vI, h_vJ, h_vA, h_cFv, h_cFs, h_toI, h_toL, h_toV, h_nO, h_nA, g_skip, g_brk, g_cnt, g_retV, g_seq, g_if, g_setI, g_setR, g_setL, g_inc, g_putI, g_putZ, g_putL, g_putR, g_upI, g_AI, g_AL, g_AR, g_UA, g_exp, g_retI, g_retL, g_retZ, g_scope, g_unBrk, g_sup, h_fn, argE_n, argE_i, argE_r, argE_l, argE_a, sto_0, sto_s, sto_n0, sto_ns, isL_i, isL_r, isL_n, isL_a, isL_l, isL_0, rcv_r, rcv_a, List.getElem?_cons_zero, List.getElem?_cons_succ, List.getElem?_nil, List.set_cons_zero, List.set_cons_succ, List.take_succ_cons, List.take_zero, List.take_nil, List.length_cons, List.length_nil, List.nil_append, List.cons_append, Nat.reduceAdd, Nat.reduceSub, Nat.reduceLT, Nat.reduceEqDiff, Nat.reduceLeDiff, Nat.zero_add, Nat.lt_irrefl, Nat.succ_sub_one, and_true, true_and, and_false, false_and, not_false_eq_true, not_true_eq_false, Bool.false_eq_true, Bool.not_true, Bool.not_false, Bool.not_eq_true', Bool.true_eq_false, decide_true, decide_false, decide_eq_true_eq, decide_eq_false_iff_not, Option.some.injEq, and_self, Nat.add_one_sub_one, Nat.lt_add_one, Nat.zero_lt_succ, Value.int.injEq, Value.ref.injEq, Value.long.injEq, exists_eq_left', exists_eq_left, Sum.inl.injEq, Sum.inr.injEq, i2z_b2i, h_vS, h_kN, n32_add, n32_mul, n32_inc, n_iEq, n_iNe, n_iLt, n_iLe, n_iGt, n_iGe, n_zEq, n_zLt, n_zLe, n_zGt, n_zGe, n_inb, n32_clamp, hm.T.t, ne_eq]
    exact WvQ.s hr sm fm J h12
theorem r_readWoven {S : Nat} (h : MB M X C n tp) (s : MS M X tp n (.inr q)) (Q : MQd M C p lo nm fl) (K : RdOK p lo nm fl) (k1 : tkK tp n q = 1) (hS2 : S < 2) : ∃ M', f_X10_readWoven [.ref X, .int (n32 S)] M = some (none, M') ∧ MPo M M' X C n tp (pSide tp n S (p, lo, nm, fl) q) := by
  have d := h.d
  have kk := K.O.kinds
  have iw := Q.iw S hS2
  obtain ⟨M1, f1, s1, e1⟩ := m_cIf h s (c := wv1) (e := [.ref X, .int (n32 S)]) (b := fl 1 S) 3 3 rfl rfl (fun Q => by unfold wv1; simp (disch := omega) only [hR_d, hT_d, hI_t, hI_f, hVI_s, hVL_s, hVR_s, hVT_s, hVV_s, hO_s, hB_0, hB_1, hB_2, hB_r, hU_0, hU_1, hU_2, hU_r, hX_r, hL_0, hL_1, hL_2, hL_r, hC_s, h_k0, h_k1, h_k2, h_k3, h_k4, h_k5, h_k6, h_k7, h_k8, h_k9, h_k10, h_k11, h_k12, h_k14, h_k16, h_k18, h_k20, h_k23, h_k24, h_k25, h_k32, h_k44, h_k48, h_k50, h_k54, h_k57, h_k58, h_k59, h_k60, h_k63, h_k97, h_k100, h_k122, h_k177, h_k255, h_k400, h_k450, h_k625, h_k649, h_k708, h_k800, h_k900, h_k2500, h_k22500, h_k45000, h_kn1, h_kn2, h_kJ, h_kU, h_eI, h_eL, h_eR, h_eT, h_b1, h_eZ, h_not, h_b2, h_b0, h_b0L, h_gI, h_gL, h_gN, h_gR, h_aI, h_aL, h_aR, h_aLen, h_tern, h_and, h_or, h_vN, h_vI, h_vJ, h_vA, h_cFv, h_cFs, h_toI, h_toL, h_toV, h_nO, h_nA, g_skip, g_brk, g_cnt, g_retV, g_seq, g_if, g_setI, g_setR, g_setL, g_inc, g_putI, g_putZ, g_putL, g_putR, g_upI, g_AI, g_AL, g_AR, g_UA, g_exp, g_retI, g_retL, g_retZ, g_scope, g_unBrk, g_sup, h_fn, argE_n, argE_i, argE_r, argE_l, argE_a, sto_0, sto_s, sto_n0, sto_ns, isL_i, isL_r, isL_n, isL_a, isL_l, isL_0, rcv_r, rcv_a, List.getElem?_cons_zero, List.getElem?_cons_succ, List.getElem?_nil, List.set_cons_zero, List.set_cons_succ, List.take_succ_cons, List.take_zero, List.take_nil, List.length_cons, List.length_nil, List.nil_append, List.cons_append, Nat.reduceAdd, Nat.reduceSub, Nat.reduceLT, Nat.reduceEqDiff, Nat.reduceLeDiff, Nat.zero_add, Nat.lt_irrefl, Nat.succ_sub_one, and_true, true_and, and_false, false_and, not_false_eq_true, not_true_eq_false, Bool.false_eq_true, Bool.not_true, Bool.not_false, Bool.not_eq_true', Bool.true_eq_false, decide_true, decide_false, decide_eq_true_eq, decide_eq_false_iff_not, Option.some.injEq, and_self, Nat.add_one_sub_one, Nat.lt_add_one, Nat.zero_lt_succ, Value.int.injEq, Value.ref.injEq, Value.long.injEq, exists_eq_left', exists_eq_left, Sum.inl.injEq, Sum.inr.injEq, i2z_b2i, h_vS, h_kN, n_iEq, n_iNe, n_iLt, n_iLe, n_iGt, n_iGe, n_zEq, n_zLt, n_zLe, n_zGt, n_zGe, n_inb, n32_clamp, h.T.t, h.r4, h.D.t, h.D.r13, h.D.t5, iw, hS2])
  have h1 := f1.mb h
  obtain ⟨M2, e2, f2, s2⟩ := m_gos h1 s1 (ok_f (fun q' hq => by cases hq; omega))
  have h2 := f2.mb h1
  have f02 := f1.trans f2
  have Q2 := Q.xf h f02
  have E1 : ∀ (Q : Re → qE → qM → Prop) (u : Hd (wvI1, Q)), hS wvI1 _ M Q u = Q (.inl 0) _ M1 := e1
  have L := m_wvL (lo := lo) (fl := fl) (nm := nm) (p := p) h2 s2 K hS2 (fun q' hq => by
    cases fb : fl 1 S with
    | true => rw [fb, fwS_t] at hq; cases hq
    | false =>
      have c0 := K.sd S hS2 fb
      refine ⟨⟨⟨Fr.refl _ _, fun _ _ => rfl⟩, Q2.mv (fun a j ha => ?_) (fun j => rfl), K.L, fun t ht => rfl⟩, c0⟩
      rw [vi_pI]
      by_cases e : a = C + 4 ∧ j = S
      · rw [if_pos e, e.1, e.2]; exact (Q2.wm S hS2).symm
      · rw [if_neg e])
  suffices key : hF f_X10_readWoven [.ref X, .int (n32 S)] M (fun v M' => v = none ∧ MPo M M' X C n tp (pSide tp n S (p, lo, nm, fl) q)) () by
    obtain ⟨v, M', e, rfl, g⟩ := h_ex key
    exact ⟨M', e, g⟩
  delta f_X10_readWoven
  rw [mwv_eq]
  simp (disch := omega) only [hR_d, hT_d, hI_t, hI_f, hVI_s, hVL_s, hVR_s, hVT_s, hVV_s, hO_s, hB_0, hB_1, hB_2, hB_r, hU_0, hU_1, hU_2, hU_r, hX_r, hL_0, hL_1, hL_2, hL_r, hC_s, h_k0, h_k1, h_k2, h_k3, h_k4, h_k5, h_k6, h_k7, h_k8, h_k9, h_k10, h_k11, h_k12, h_k14, h_k16, h_k18, h_k20, h_k23, h_k24, h_k25, h_k32, h_k44, h_k48, h_k50, h_k54, h_k57, h_k58, h_k59, h_k60, h_k63, h_k97, h_k100, h_k122, h_k177, h_k255, h_k400, h_k450, h_k625, h_k649, h_k708, h_k800, h_k900, h_k2500, h_k22500, h_k45000, h_kn1, h_kn2, h_kJ, h_kU, h_eI, h_eL, h_eR, h_eT, h_b1, h_eZ, h_not, h_b2, h_b0, h_b0L, h_gI, h_gL, h_gN, h_gR, h_aI, h_aL, h_aR, h_aLen, h_tern, h_and, h_or, h_vN, h_vI, h_vJ, h_vA, h_cFv, h_cFs, h_toI, h_toL, h_toV, h_nO, h_nA, g_skip, g_brk, g_cnt, g_retV, g_seq, g_if, g_setI, g_setR, g_setL, g_inc, g_putI, g_putZ, g_putL, g_putR, g_upI, g_AI, g_AL, g_AR, g_UA, g_exp, g_retI, g_retL, g_retZ, g_scope, g_unBrk, g_sup, h_fn, argE_n, argE_i, argE_r, argE_l, argE_a, sto_0, sto_s, sto_n0, sto_ns, isL_i, isL_r, isL_n, isL_a, isL_l, isL_0, rcv_r, rcv_a, List.getElem?_cons_zero, List.getElem?_cons_succ, List.getElem?_nil, List.set_cons_zero, List.set_cons_succ, List.take_succ_cons, List.take_zero, List.take_nil, List.length_cons, List.length_nil, List.nil_append, List.cons_append, Nat.reduceAdd, Nat.reduceSub, Nat.reduceLT, Nat.reduceEqDiff, Nat.reduceLeDiff, Nat.zero_add, Nat.lt_irrefl, Nat.succ_sub_one, and_true, true_and, and_false, false_and, not_false_eq_true, not_true_eq_false, Bool.false_eq_true, Bool.not_true, Bool.not_false, Bool.not_eq_true', Bool.true_eq_false, decide_true, decide_false, decide_eq_true_eq, decide_eq_false_iff_not, Option.some.injEq, and_self, Nat.add_one_sub_one, Nat.lt_add_one, Nat.zero_lt_succ, Value.int.injEq, Value.ref.injEq, Value.long.injEq, exists_eq_left', exists_eq_left, Sum.inl.injEq, Sum.inr.injEq, i2z_b2i, h_vS, h_kN, n32_add, n32_mul, n32_inc, n_iEq, n_iNe, n_iLt, n_iLe, n_iGt, n_iGe, n_zEq, n_zLt, n_zLe, n_zGt, n_zGe, n_inb, n32_clamp, tg_pI, tg_pL, tg_pR, vr_pI, vr_pL, vl_pI, vl_pR, vi_pL, vi_pR, mN_pI, mN_pL, mN_pR, mU_pI, mU_pL, mU_pR, h.T.t, E1, h1.T.t, h_of e2]
  have R : (∃ e0, pSide tp n S (p, lo, nm, fl) q = .inl e0 ∧ pB (gos tp n (fwS tp n 3 (fl 1 S) (.inr q))) (pSideL tp n p nm S 13 0 lo) = .inl e0) ∨ (∃ y, pSide tp n S (p, lo, nm, fl) q = .inr (y.1, p, y.2, nm, setF fl 1 S) ∧ pB (gos tp n (fwS tp n 3 (fl 1 S) (.inr q))) (pSideL tp n p nm S 13 0 lo) = .inr y) := by
    unfold pSide
    cases fb : fl 1 S with
    | true => exact Or.inl ⟨(3, tkP tp n q), by simp only [fb, if_true], by rw [fwS_t]; rfl⟩
    | false =>
    rw [fwS_f, gos_r]
    cases y3 : pSideL tp n p nm S 13 0 lo (tkE tp n q) with
    | inl e => exact Or.inl ⟨e, by simp only [y3, pB_l, fb, Bool.false_eq_true, if_false], by rw [pB_r, y3]⟩
    | inr y => exact Or.inr ⟨y, by simp only [y3, pB_r, fb, Bool.false_eq_true, if_false], by rw [pB_r, y3]⟩
  refine hS.mono L ?_
  rintro r e M6 ⟨τ, s6, F6, g⟩
  have h6 := F6.mb h2
  have F06 := (f02.lf C).trans F6
  obtain ⟨z, z1, z2, z3⟩ := s6.o
  rcases g with ⟨e0, g, rfl, o⟩ | ⟨q', lo', v, w, g, rfl, rfl, rfl, J, h12⟩
  · have t : pSide tp n S (p, lo, nm, fl) q = .inl e0 := by
      rcases R with ⟨e1, t, g1⟩ | ⟨y, t, g1⟩
      · rw [g1] at g; cases g; exact t
      · rw [g1] at g; cases g
    have G := MPo.f (M := M) t F06 s6
    rcases o with rfl | ⟨rfl, o⟩
    · simp (disch := omega) only [hR_d, hT_d, hI_t, hI_f, hVI_s, hVL_s, hVR_s, hVT_s, hVV_s, hO_s, hB_0, hB_1, hB_2, hB_r, hU_0, hU_1, hU_2, hU_r, hX_r, hL_0, hL_1, hL_2, hL_r, hC_s, h_k0, h_k1, h_k2, h_k3, h_k4, h_k5, h_k6, h_k7, h_k8, h_k9, h_k10, h_k11, h_k12, h_k14, h_k16, h_k18, h_k20, h_k23, h_k24, h_k25, h_k32, h_k44, h_k48, h_k50, h_k54, h_k57, h_k58, h_k59, h_k60, h_k63, h_k97, h_k100, h_k122, h_k177, h_k255, h_k400, h_k450, h_k625, h_k649, h_k708, h_k800, h_k900, h_k2500, h_k22500, h_k45000, h_kn1, h_kn2, h_kJ, h_kU, h_eI, h_eL, h_eR, h_eT, h_b1, h_eZ, h_not, h_b2, h_b0, h_b0L, h_gI, h_gL, h_gN, h_gR, h_aI, h_aL, h_aR, h_aLen, h_tern, h_and, h_or, h_vN, h_vI, h_vJ, h_vA, h_cFv, h_cFs, h_toI, h_toL, h_toV, h_nO, h_nA, g_skip, g_brk, g_cnt, g_retV, g_seq, g_if, g_setI, g_setR, g_setL, g_inc, g_putI, g_putZ, g_putL, g_putR, g_upI, g_AI, g_AL, g_AR, g_UA, g_exp, g_retI, g_retL, g_retZ, g_scope, g_unBrk, g_sup, h_fn, argE_n, argE_i, argE_r, argE_l, argE_a, sto_0, sto_s, sto_n0, sto_ns, isL_i, isL_r, isL_n, isL_a, isL_l, isL_0, rcv_r, rcv_a, List.getElem?_cons_zero, List.getElem?_cons_succ, List.getElem?_nil, List.set_cons_zero, List.set_cons_succ, List.take_succ_cons, List.take_zero, List.take_nil, List.length_cons, List.length_nil, List.nil_append, List.cons_append, Nat.reduceAdd, Nat.reduceSub, Nat.reduceLT, Nat.reduceEqDiff, Nat.reduceLeDiff, Nat.zero_add, Nat.lt_irrefl, Nat.succ_sub_one, and_true, true_and, and_false, false_and, not_false_eq_true, not_true_eq_false, Bool.false_eq_true, Bool.not_true, Bool.not_false, Bool.not_eq_true', Bool.true_eq_false, decide_true, decide_false, decide_eq_true_eq, decide_eq_false_iff_not, Option.some.injEq, and_self, Nat.add_one_sub_one, Nat.lt_add_one, Nat.zero_lt_succ, Value.int.injEq, Value.ref.injEq, Value.long.injEq, exists_eq_left', exists_eq_left, Sum.inl.injEq, Sum.inr.injEq, i2z_b2i, h_vS, h_kN]
      exact G
    · have z5 : z = 5 := of_decide_eq_true z3
      simp (disch := omega) only [hR_d, hT_d, hI_t, hI_f, hVI_s, hVL_s, hVR_s, hVT_s, hVV_s, hO_s, hB_0, hB_1, hB_2, hB_r, hU_0, hU_1, hU_2, hU_r, hX_r, hL_0, hL_1, hL_2, hL_r, hC_s, h_k0, h_k1, h_k2, h_k3, h_k4, h_k5, h_k6, h_k7, h_k8, h_k9, h_k10, h_k11, h_k12, h_k14, h_k16, h_k18, h_k20, h_k23, h_k24, h_k25, h_k32, h_k44, h_k48, h_k50, h_k54, h_k57, h_k58, h_k59, h_k60, h_k63, h_k97, h_k100, h_k122, h_k177, h_k255, h_k400, h_k450, h_k625, h_k649, h_k708, h_k800, h_k900, h_k2500, h_k22500, h_k45000, h_kn1, h_kn2, h_kJ, h_kU, h_eI, h_eL, h_eR, h_eT, h_b1, h_eZ, h_not, h_b2, h_b0, h_b0L, h_gI, h_gL, h_gN, h_gR, h_aI, h_aL, h_aR, h_aLen, h_tern, h_and, h_or, h_vN, h_vI, h_vJ, h_vA, h_cFv, h_cFs, h_toI, h_toL, h_toV, h_nO, h_nA, g_skip, g_brk, g_cnt, g_retV, g_seq, g_if, g_setI, g_setR, g_setL, g_inc, g_putI, g_putZ, g_putL, g_putR, g_upI, g_AI, g_AL, g_AR, g_UA, g_exp, g_retI, g_retL, g_retZ, g_scope, g_unBrk, g_sup, h_fn, argE_n, argE_i, argE_r, argE_l, argE_a, sto_0, sto_s, sto_n0, sto_ns, isL_i, isL_r, isL_n, isL_a, isL_l, isL_0, rcv_r, rcv_a, List.getElem?_cons_zero, List.getElem?_cons_succ, List.getElem?_nil, List.set_cons_zero, List.set_cons_succ, List.take_succ_cons, List.take_zero, List.take_nil, List.length_cons, List.length_nil, List.nil_append, List.cons_append, Nat.reduceAdd, Nat.reduceSub, Nat.reduceLT, Nat.reduceEqDiff, Nat.reduceLeDiff, Nat.zero_add, Nat.lt_irrefl, Nat.succ_sub_one, and_true, true_and, and_false, false_and, not_false_eq_true, not_true_eq_false, Bool.false_eq_true, Bool.not_true, Bool.not_false, Bool.not_eq_true', Bool.true_eq_false, decide_true, decide_false, decide_eq_true_eq, decide_eq_false_iff_not, Option.some.injEq, and_self, Nat.add_one_sub_one, Nat.lt_add_one, Nat.zero_lt_succ, Value.int.injEq, Value.ref.injEq, Value.long.injEq, exists_eq_left', exists_eq_left, Sum.inl.injEq, Sum.inr.injEq, i2z_b2i, h_vS, h_kN, n32_add, n32_mul, n32_inc, n_iEq, n_iNe, n_iLt, n_iLe, n_iGt, n_iGe, n_zEq, n_zLt, n_zLe, n_zGt, n_zGe, n_inb, n32_clamp, tg_pI, tg_pL, tg_pR, vr_pI, vr_pL, vl_pI, vl_pR, vi_pL, vi_pR, mN_pI, mN_pL, mN_pR, mU_pI, mU_pL, mU_pR, o, h6.T.t, z1, z5]
      exact G
  · have t : pSide tp n S (p, lo, nm, fl) q = .inr (q', p, lo', nm, setF fl 1 S) := by
      rcases R with ⟨e1, t, g1⟩ | ⟨y, t, g1⟩
      · rw [g1] at g; cases g
      · rw [g1] at g; cases g; exact t
    have z5 : ¬ z = 5 := of_decide_eq_false z3
    obtain ⟨M8, hM8⟩ : ∃ M8, M8 = pI (pI M6 (C + 5) S (n32 1)) (C + 4) S (n32 (lC lo' S)) := ⟨_, rfl⟩
    have QJ := J.Q
    have k8 : ∀ u j, ¬ (u = C + 5 ∧ j = S) → vi M8 u j = vi (pI M6 (C + 4) S (n32 (lC lo' S))) u j := fun u j hn => by rw [hM8, vi_pI, vi_pI, if_neg hn, vi_pI]
    have l8 : vl M8 = vl (pI M6 (C + 4) S (n32 (lC lo' S))) := by rw [hM8]; rfl
    have kX : ∀ j, vi M8 X j = vi M6 X j := fun j => by rw [hM8, vi_ne (by omega), vi_ne (by omega)]
    have f8 : LF M6 M8 X C := by
      refine ⟨?_, fun j hj => kX j⟩
      rw [hM8]
      exact ((Fr.refl (mS X C) M6).pI _ _ (Or.inr ⟨by omega, by omega⟩)).pI _ _ (Or.inr ⟨by omega, by omega⟩)
    have s8 : MS M8 X tp n (.inr q') := s6.mv kX (by rw [l8]; rfl)
    have G : MPo M M8 X C n tp (pSide tp n S (p, lo, nm, fl) q) := by
      refine MPo.s (rd := (p, lo', nm, setF fl 1 S)) t (F06.trans f8) s8 ⟨?_, ?_, ?_, fun u v hu hv => ?_, fun u i hu hi => ?_, fun u hu => ?_, fun u hu => ?_, fun r hr => ?_, fun r hr => ?_, fun r hr hk => ?_⟩
      · exact QJ.V.kp (fun a j hn => k8 a j (by omega))
      · exact ⟨by rw [k8 _ _ (by omega)]; exact QJ.N.nn, QJ.N.n14, fun i hi => by rw [l8, k8 _ _ (by omega), k8 _ _ (by omega)]; exact QJ.N.nw i hi, QJ.N.ok⟩
      · show _ = b2i (setF fl 1 S 0 0)
        rw [k8 _ _ (by omega), setF_g (by decide)]; exact QJ.told
      · rw [k8 _ _ (by omega)]; exact QJ.st u v hu hv
      · rw [k8 _ _ (by omega)]; exact QJ.wv u i hu hi
      · rw [k8 _ _ (by omega)]; exact QJ.wm u hu
      · show _ = b2i (setF fl 1 S 1 u)
        unfold setF
        by_cases ea : u = S
        · rw [if_pos ⟨rfl, ea⟩, hM8, vi_ne (by omega), vi_pI, if_pos ⟨rfl, ea⟩]; rfl
        · rw [if_neg (show ¬ (1 = 1 ∧ u = S) from fun z => ea z.2), k8 _ _ (by omega)]; exact QJ.iw u hu
      · show _ = b2i (setF fl 1 S 2 r)
        rw [k8 _ _ (by omega), setF_g (by decide)]; exact QJ.inx r hr
      · show _ = b2i (setF fl 1 S 3 r)
        rw [k8 _ _ (by omega), setF_g (by decide)]; exact QJ.ian r hr
      · rw [k8 _ _ (by omega)]; exact QJ.z11 r hr hk
    unfold wvT
    simp (disch := omega) only [hR_d, hT_d, hI_t, hI_f, hVI_s, hVL_s, hVR_s, hVT_s, hVV_s, hO_s, hB_0, hB_1, hB_2, hB_r, hU_0, hU_1, hU_2, hU_r, hX_r, hL_0, hL_1, hL_2, hL_r, hC_s, h_k0, h_k1, h_k2, h_k3, h_k4, h_k5, h_k6, h_k7, h_k8, h_k9, h_k10, h_k11, h_k12, h_k14, h_k16, h_k18, h_k20, h_k23, h_k24, h_k25, h_k32, h_k44, h_k48, h_k50, h_k54, h_k57, h_k58, h_k59, h_k60, h_k63, h_k97, h_k100, h_k122, h_k177, h_k255, h_k400, h_k450, h_k625, h_k649, h_k708, h_k800, h_k900, h_k2500, h_k22500, h_k45000, h_kn1, h_kn2, h_kJ, h_kU, h_eI, h_eL, h_eR, h_eT, h_b1, h_eZ, h_not, h_b2, h_b0, h_b0L, h_gI, h_gL, h_gN, h_gR, h_aI, h_aL, h_aR, h_aLen, h_tern, h_and, h_or, h_vN, h_vI, h_vJ, h_vA, h_cFv, h_cFs, h_toI, h_toL, h_toV, h_nO, h_nA, g_skip, g_brk, g_cnt, g_retV, g_seq, g_if, g_setI, g_setR, g_setL, g_inc, g_putI, g_putZ, g_putL, g_putR, g_upI, g_AI, g_AL, g_AR, g_UA, g_exp, g_retI, g_retL, g_retZ, g_scope, g_unBrk, g_sup, h_fn, argE_n, argE_i, argE_r, argE_l, argE_a, sto_0, sto_s, sto_n0, sto_ns, isL_i, isL_r, isL_n, isL_a, isL_l, isL_0, rcv_r, rcv_a, List.getElem?_cons_zero, List.getElem?_cons_succ, List.getElem?_nil, List.set_cons_zero, List.set_cons_succ, List.take_succ_cons, List.take_zero, List.take_nil, List.length_cons, List.length_nil, List.nil_append, List.cons_append, Nat.reduceAdd, Nat.reduceSub, Nat.reduceLT, Nat.reduceEqDiff, Nat.reduceLeDiff, Nat.zero_add, Nat.lt_irrefl, Nat.succ_sub_one, and_true, true_and, and_false, false_and, not_false_eq_true, not_true_eq_false, Bool.false_eq_true, Bool.not_true, Bool.not_false, Bool.not_eq_true', Bool.true_eq_false, decide_true, decide_false, decide_eq_true_eq, decide_eq_false_iff_not, Option.some.injEq, and_self, Nat.add_one_sub_one, Nat.lt_add_one, Nat.zero_lt_succ, Value.int.injEq, Value.ref.injEq, Value.long.injEq, exists_eq_left', exists_eq_left, Sum.inl.injEq, Sum.inr.injEq, i2z_b2i, h_vS, h_kN, n32_add, n32_mul, n32_inc, n_iEq, n_iNe, n_iLt, n_iLe, n_iGt, n_iGe, n_zEq, n_zLt, n_zLe, n_zGt, n_zGe, n_inb, n32_clamp, tg_pI, tg_pL, tg_pR, vr_pI, vr_pL, vl_pI, vl_pR, vi_pL, vi_pR, mN_pI, mN_pL, mN_pR, mU_pI, mU_pL, mU_pR, h6.T.t, z1, z5, h6.r4, h6.D.t, h6.D.r13, h6.D.t5, h6.D.r12, h6.D.t4, hS2, nar, n1_and, Nat.reduceEqDiff, if_false, if_true, ← hM8]
    exact G
end
