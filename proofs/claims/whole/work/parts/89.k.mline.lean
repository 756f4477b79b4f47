/-! THE REFERENCE'S READER: lines -/
def MQd (M : qM) (C : Nat) (p : Pl) (lo : Lo) (nm : Nm) (fl : Fl) : Prop := (ClothV M C p) ∧ (NmR M C nm) ∧ (vi M C 8 = b2i (fl 0 0)) ∧ (∀ s c, s < 2 → c < 2 → vi M (C + 2) (2 * s + c) = n32 (lS lo s c)) ∧ (∀ s i, s < 2 → i < lC lo s → vi M (C + 3) (12 * s + i) = n32 (lR lo s i)) ∧ (∀ s, s < 2 → vi M (C + 4) s = n32 (lC lo s)) ∧ (∀ s, s < 2 → vi M (C + 5) s = b2i (fl 1 s)) ∧ (∀ r, r < 8 → vi M (C + 7) r = b2i (fl 2 r)) ∧ (∀ r, r < 8 → vi M (C + 8) r = b2i (fl 3 r)) ∧ (∀ r, r < 8 → pK p ≤ r → vi M (C + 11) r = n32 0)
theorem MQd.V {M : qM} {C : Nat} {p : Pl} {lo : Lo} {nm : Nm} {fl : Fl} (h : MQd M C p lo nm fl) : ClothV M C p := h.1
theorem MQd.N {M : qM} {C : Nat} {p : Pl} {lo : Lo} {nm : Nm} {fl : Fl} (h : MQd M C p lo nm fl) : NmR M C nm := h.2.1
theorem MQd.told {M : qM} {C : Nat} {p : Pl} {lo : Lo} {nm : Nm} {fl : Fl} (h : MQd M C p lo nm fl) : vi M C 8 = b2i (fl 0 0) := h.2.2.1
theorem MQd.st {M : qM} {C : Nat} {p : Pl} {lo : Lo} {nm : Nm} {fl : Fl} (h : MQd M C p lo nm fl) : ∀ s c, s < 2 → c < 2 → vi M (C + 2) (2 * s + c) = n32 (lS lo s c) := h.2.2.2.1
theorem MQd.wv {M : qM} {C : Nat} {p : Pl} {lo : Lo} {nm : Nm} {fl : Fl} (h : MQd M C p lo nm fl) : ∀ s i, s < 2 → i < lC lo s → vi M (C + 3) (12 * s + i) = n32 (lR lo s i) := h.2.2.2.2.1
theorem MQd.wm {M : qM} {C : Nat} {p : Pl} {lo : Lo} {nm : Nm} {fl : Fl} (h : MQd M C p lo nm fl) : ∀ s, s < 2 → vi M (C + 4) s = n32 (lC lo s) := h.2.2.2.2.2.1
theorem MQd.iw {M : qM} {C : Nat} {p : Pl} {lo : Lo} {nm : Nm} {fl : Fl} (h : MQd M C p lo nm fl) : ∀ s, s < 2 → vi M (C + 5) s = b2i (fl 1 s) := h.2.2.2.2.2.2.1
theorem MQd.inx {M : qM} {C : Nat} {p : Pl} {lo : Lo} {nm : Nm} {fl : Fl} (h : MQd M C p lo nm fl) : ∀ r, r < 8 → vi M (C + 7) r = b2i (fl 2 r) := h.2.2.2.2.2.2.2.1
theorem MQd.ian {M : qM} {C : Nat} {p : Pl} {lo : Lo} {nm : Nm} {fl : Fl} (h : MQd M C p lo nm fl) : ∀ r, r < 8 → vi M (C + 8) r = b2i (fl 3 r) := h.2.2.2.2.2.2.2.2.1
theorem MQd.z11 {M : qM} {C : Nat} {p : Pl} {lo : Lo} {nm : Nm} {fl : Fl} (h : MQd M C p lo nm fl) : ∀ r, r < 8 → pK p ≤ r → vi M (C + 11) r = n32 0 := h.2.2.2.2.2.2.2.2.2
def mS (X C : Nat) : Nat → Prop := fun a => a = X ∨ (C ≤ a ∧ a ≤ C + 21)
def LF (M M' : qM) (X C : Nat) : Prop := Fr (mS X C) M M' ∧ ∀ k, k < 8 ∨ 16 ≤ k → vi M' X k = vi M X k
theorem LF.trans {M M1 M2 : qM} {X C : Nat} (h : LF M M1 X C) (g : LF M1 M2 X C) : LF M M2 X C := ⟨h.1.trans g.1, fun k hk => (g.2 k hk).trans (h.2 k hk)⟩
theorem XF.lf {M M' : qM} {X : Nat} (h : XF M M' X) (C : Nat) : LF M M' X C := ⟨h.1.mono (fun a e => Or.inl e), h.2⟩
theorem LF.pI {M m : qM} {X C a k : Nat} {x : Int32} (h : LF M m X C) (ha : C ≤ a ∧ a ≤ C + 21) (hd : X < C) : LF M (pI m a k x) X C := ⟨h.1.pI k x (Or.inr ha), fun j hj => by rw [vi_ne (by omega)]; exact h.2 j hj⟩
theorem LF.pL {M m : qM} {X C a k : Nat} {x : Int64} (h : LF M m X C) (ha : C ≤ a ∧ a ≤ C + 21) : LF M (pL m a k x) X C := ⟨h.1.pL k x (Or.inr ha), h.2⟩
def MPo (M M' : qM) (X C n : Nat) (tp : Nat → Int32) (r : Pr (Nat × Rd)) : Prop := LF M M' X C ∧ (match r with
  | .inl e => MS M' X tp n (.inl e)
  | .inr x => MS M' X tp n (.inr x.1) ∧ MQd M' C x.2.1 x.2.2.1 x.2.2.2.1 x.2.2.2.2)
noncomputable def clT : Sv := (sSeq (sPutI 10 0 (gR 11 4 (eR 0)) (toI (cFv 11 f_X10_readPart (vI (vI (vS (vA vN (eR 0)) (eK 32)) (eK (4 : Int32))) (eK (60 : Int32)))))) (sSeq (sPutI 10 1 (gR 11 4 (eR 0)) (toI (cFv 11 f_X10_readPart (vI (vI (vS (vA vN (eR 0)) (eK 33)) (eK (0 : Int32))) (eK (9 : Int32)))))) (sSeq (sAI 20 (gR 10 9 (gR 11 4 (eR 0))) (eK (0 : Int32)) (toI (cFv 11 f_X10_readPart (vI (vI (vS (vA vN (eR 0)) (eK 25)) (eK (1 : Int32))) (eK (9 : Int32)))))) (sSeq (sAI 20 (gR 10 9 (gR 11 4 (eR 0))) (eK (1 : Int32)) (toI (cFv 11 f_X10_readPart (vI (vI (vS (vA vN (eR 0)) (eK 26)) (eK (1 : Int32))) (eK (9 : Int32)))))) (sSeq (sPutI 10 6 (gR 11 4 (eR 0)) (toI (cFv 11 f_X10_readPart (vI (vI (vS (vA vN (eR 0)) (eK 34)) (eK (1 : Int32))) (eK (5 : Int32)))))) (sPutZ 10 8 (gR 11 4 (eR 0)) (eK (1 : Int32))))))))
theorem cl_eq : b_X10_readCloth = (sSeq (sSeq (sIf (b1 i2z (gI 10 8 (gR 11 4 (eR 0)))) (sExp (toV (cFv 11 f_X10_flaw (vI (vA vN (eR 0)) (eK (3 : Int32)))))) sSkip) (sSeq (sExp (toV (cFv 11 f_X10_goesOn (vA vN (eR 0))))) clT)) sRetV) := rfl
section
variable {M : qM} {X C n q : Nat} {tp : Nat → Int32} {σ : Pr Nat} {p : Pl} {lo : Lo} {nm : Nm} {fl : Fl}
theorem MPo.f {M' : qM} {e : Nat × Nat} {r : Pr (Nat × Rd)} (he : r = .inl e) (f : LF M M' X C) (s : MS M' X tp n (.inl e)) : MPo M M' X C n tp r := by
  rw [he]; exact ⟨f, s⟩
theorem MPo.s {M' : qM} {q' : Nat} {rd : Rd} {r : Pr (Nat × Rd)} (he : r = .inr (q', rd)) (f : LF M M' X C) (s : MS M' X tp n (.inr q')) (g : MQd M' C rd.1 rd.2.1 rd.2.2.1 rd.2.2.2) : MPo M M' X C n tp r := by
  rw [he]; exact ⟨f, s, g⟩
theorem LF.mb {m : qM} (f : LF M m X C) (h : MB M X C n tp) : MB m X C n tp := by
  have d := h.d
  exact ⟨h.T.fr f.1, by rw [f.1.vr]; exact h.r4, h.D.fr f.1, by rw [f.2 7 (by decide)]; exact h.sz, h.n9, fun i hi => by rw [f.1.vi (by unfold mS; omega)]; exact h.tp i hi, h.by, d⟩
theorem MB.cw (h : MB M X C n tp) {a k : Nat} {x : Int32} (ha : C ≤ a ∧ a ≤ C + 21) : MB (pI M a k x) X C n tp := by
  have d := h.d
  exact LF.mb (M := M) ⟨(Fr.refl (mS X C) M).pI k x (Or.inr ha), fun j _ => vi_ne (by omega)⟩ h
theorem MS.cw (s : MS M X tp n σ) {a k : Nat} {x : Int32} (ha : a ≠ X) : MS (pI M a k x) X tp n σ := by
  have e : ∀ j, vi (pI M a k x) X j = vi M X j := fun j => vi_ne (fun z => ha z.symm)
  cases σ with
  | inl y =>
    obtain ⟨s1, s2, s3⟩ := s
    exact ⟨by rw [e]; exact s1, by rw [e]; exact s2, by rw [e]; exact s3⟩
  | inr q =>
    obtain ⟨s1, s2, s3⟩ := s
    refine ⟨s1, ?_, by rw [e]; exact s3⟩
    unfold MTk at s2 ⊢
    rw [e, e, e, e, e]
    exact s2
theorem MS.cl (s : MS M X tp n σ) {a k : Nat} {x : Int64} (ha : a ≠ X) : MS (pL M a k x) X tp n σ := by
  have e : vl (pL M a k x) X 15 = vl M X 15 := vl_ne (fun z => ha z.symm)
  cases σ with
  | inl y => exact s
  | inr q =>
    obtain ⟨s1, s2, s3⟩ := s
    refine ⟨s1, ?_, s3⟩
    unfold MTk at s2 ⊢
    rw [e]
    exact s2
theorem MQd.xf {m : qM} (Q : MQd M C p lo nm fl) (h : MB M X C n tp) (f : XF M m X) : MQd m C p lo nm fl := by
  have d := h.d
  have e : ∀ a, C ≤ a → ∀ j, vi m a j = vi M a j := fun a ha j => f.1.vi (by omega) j
  exact ⟨Q.V.fr f.1 (fun a z1 z2 z3 => by omega), Q.N.xf h f, by rw [e _ (by omega)]; exact Q.told, fun s c hs hc => by rw [e _ (by omega)]; exact Q.st s c hs hc, fun s i hs hi => by rw [e _ (by omega)]; exact Q.wv s i hs hi, fun s hs => by rw [e _ (by omega)]; exact Q.wm s hs, fun s hs => by rw [e _ (by omega)]; exact Q.iw s hs, fun r hr => by rw [e _ (by omega)]; exact Q.inx r hr, fun r hr => by rw [e _ (by omega)]; exact Q.ian r hr, fun r hr hk => by rw [e _ (by omega)]; exact Q.z11 r hr hk⟩

theorem r_readCloth (h : MB M X C n tp) (s : MS M X tp n (.inr q)) (Q : MQd M C p lo nm fl) (K : RdOK p lo nm fl) (k1 : tkK tp n q = 1) : ∃ M', f_X10_readCloth [.ref X] M = some (none, M') ∧ MPo M M' X C n tp (pCloth tp n (p, lo, nm, fl) q) := by
  have d := h.d
  have body : ∀ σ M0, XF M M0 X → MS M0 X tp n σ → ∃ M', hS clT [.ref X] M0 (fun r e m => r = .inl 0 ∧ m = M') () ∧ LF M M' X C ∧ MS M' X tp n (sN (pB (sN (pB (sN (pB (sN (pB (sN (pB σ (pPt tp n 12 4 60))) (pPt tp n 13 0 9))) (pPt tp n 5 1 9))) (pPt tp n 6 1 9))) (pPt tp n 14 1 5))) ∧ ∀ x1 x2 x3 x4 x5, pB σ (pPt tp n 12 4 60) = .inr x1 → pPt tp n 13 0 9 x1.2 = .inr x2 → pPt tp n 5 1 9 x2.2 = .inr x3 → pPt tp n 6 1 9 x3.2 = .inr x4 → pPt tp n 14 1 5 x4.2 = .inr x5 → MQd M' C (plC p x1.1 x2.1 x3.1 x4.1 x5.1) lo nm (setF fl 0 0) := by
    intro σ M0 f0 s0
    have h0 := f0.mb h
    have Q0 := Q.xf h f0
    obtain ⟨v1, M1, e1, f1, s1, r1, -⟩ := m_rPt h0 s0 (i := 32) (j := 12) (a := 4) (b := 60) rfl (by decide) (by decide) (by decide)
    have h1 := f1.mb h0
    have h1' : MB (pI M1 C 0 (n32 v1)) X C n tp := h1.cw ⟨by omega, by omega⟩
    obtain ⟨v2, M2, e2, f2, s2, r2, -⟩ := m_rPt h1' (s1.cw (by omega)) (i := 33) (j := 13) (a := 0) (b := 9) rfl (by decide) (by decide) (by decide)
    have h2 := f2.mb h1'
    have h2' : MB (pI M2 C 1 (n32 v2)) X C n tp := h2.cw ⟨by omega, by omega⟩
    obtain ⟨v3, M3, e3, f3, s3, r3, -⟩ := m_rPt h2' (s2.cw (by omega)) (i := 25) (j := 5) (a := 1) (b := 9) rfl (by decide) (by decide) (by decide)
    have h3 := f3.mb h2'
    have h3' : MB (pI M3 (C + 1) 0 (n32 v3)) X C n tp := h3.cw ⟨by omega, by omega⟩
    obtain ⟨v4, M4, e4, f4, s4, r4, -⟩ := m_rPt h3' (s3.cw (by omega)) (i := 26) (j := 6) (a := 1) (b := 9) rfl (by decide) (by decide) (by decide)
    have h4 := f4.mb h3'
    have h4' : MB (pI M4 (C + 1) 1 (n32 v4)) X C n tp := h4.cw ⟨by omega, by omega⟩
    obtain ⟨v5, M5, e5, f5, s5, r5, -⟩ := m_rPt h4' (s4.cw (by omega)) (i := 34) (j := 14) (a := 1) (b := 5) rfl (by decide) (by decide) (by decide)
    have h5 := f5.mb h4'
    have c := fun (M : qM) (a k : Nat) (x : Int32) (ha : C ≤ a ∧ a ≤ C + 21) => (show LF M (pI M a k x) X C from ⟨(Fr.refl (mS X C) M).pI k x (Or.inr ha), fun j _ => vi_ne (by omega)⟩)
    refine ⟨pI (pI M5 C 6 (n32 v5)) C 8 (n32 1), ?_, ?_, (s5.cw (by omega)).cw (by omega), ?_⟩
    · unfold clT
      have ok1 : okZ (n32 1) = true := by decide
      simp (disch := omega) only [hR_d, hT_d, hI_t, hI_f, hVI_s, hVL_s, hVR_s, hVT_s, hVV_s, hO_s, hB_0, hB_1, hB_2, hB_r, hU_0, hU_1, hU_2, hU_r, hX_r, hL_0, hL_1, hL_2, hL_r, hC_s, h_k0, h_k1, h_k2, h_k3, h_k4, h_k5, h_k6, h_k7, h_k8, h_k9, h_k10, h_k11, h_k12, h_k14, h_k16, h_k18, h_k20, h_k23, h_k24, h_k25, h_k32, h_k44, h_k48, h_k50, h_k54, h_k57, h_k58, h_k59, h_k60, h_k63, h_k97, h_k100, h_k122, h_k177, h_k255, h_k400, h_k450, h_k625, h_k649, h_k708, h_k800, h_k900, h_k2500, h_k22500, h_k45000, h_kn1, h_kn2, h_kJ, h_kU, h_eI, h_eL, h_eR, h_eT, h_b1, h_eZ, h_not, h_b2, h_b0, h_b0L, h_gI, h_gL, h_gN, h_gR, h_aI, h_aL, h_aR, h_aLen, h_tern, h_and, h_or, h_vN, h_vI, h_vJ, h_vA, h_cFv, h_cFs, h_toI, h_toL, h_toV, h_nO, h_nA, g_skip, g_brk, g_cnt, g_retV, g_seq, g_if, g_setI, g_setR, g_setL, g_inc, g_putI, g_putZ, g_putL, g_putR, g_upI, g_AI, g_AL, g_AR, g_UA, g_exp, g_retI, g_retL, g_retZ, g_scope, g_unBrk, g_sup, h_fn, argE_n, argE_i, argE_r, argE_l, argE_a, sto_0, sto_s, sto_n0, sto_ns, isL_i, isL_r, isL_n, isL_a, isL_l, isL_0, rcv_r, rcv_a, List.getElem?_cons_zero, List.getElem?_cons_succ, List.getElem?_nil, List.set_cons_zero, List.set_cons_succ, List.take_succ_cons, List.take_zero, List.take_nil, List.length_cons, List.length_nil, List.nil_append, List.cons_append, Nat.reduceAdd, Nat.reduceSub, Nat.reduceLT, Nat.reduceEqDiff, Nat.reduceLeDiff, Nat.zero_add, Nat.lt_irrefl, Nat.succ_sub_one, and_true, true_and, and_false, false_and, not_false_eq_true, not_true_eq_false, Bool.false_eq_true, Bool.not_true, Bool.not_false, Bool.not_eq_true', Bool.true_eq_false, decide_true, decide_false, decide_eq_true_eq, decide_eq_false_iff_not, Option.some.injEq, and_self, Nat.add_one_sub_one, Nat.lt_add_one, Nat.zero_lt_succ, Value.int.injEq, Value.ref.injEq, Value.long.injEq, exists_eq_left', exists_eq_left, Sum.inl.injEq, Sum.inr.injEq, i2z_b2i, h_vS, h_kN, n32_add, n32_mul, n32_inc, n_iEq, n_iNe, n_iLt, n_iLe, n_iGt, n_iGe, n_zEq, n_zLt, n_zLe, n_zGt, n_zGe, n_inb, n32_clamp, tg_pI, tg_pL, tg_pR, vr_pI, vr_pL, vl_pI, vl_pR, vi_pL, vi_pR, mN_pI, mN_pL, mN_pR, mU_pI, mU_pL, mU_pR, h0.T.t, h0.r4, h0.D.t, h_of e1, h1.D.t, h1.T.t, h1.r4, h_of e2, h2.D.t, h2.T.t, h2.r4, h2.D.r9, h2.D.t1, h_of e3, h3.D.t1, h3.T.t, h3.r4, h3.D.t, h3.D.r9, h_of e4, h4.D.t1, h4.T.t, h4.r4, h4.D.t, h_of e5, h5.D.t, h5.T.t, h5.r4, nar, Nat.reduceEqDiff, if_false, ok1]
    · exact ((((((((((f0.lf C).trans (f1.lf C)).trans (c _ _ _ _ ⟨by omega, by omega⟩)).trans (f2.lf C)).trans (c _ _ _ _ ⟨by omega, by omega⟩)).trans (f3.lf C)).trans (c _ _ _ _ ⟨by omega, by omega⟩)).trans (f4.lf C)).trans (c _ _ _ _ ⟨by omega, by omega⟩)).trans (f5.lf C)).trans ((c _ _ _ _ ⟨by omega, by omega⟩).trans (c _ _ _ _ ⟨by omega, by omega⟩))
    · intro x1 x2 x3 x4 x5 y1 y2 y3 y4 y5
      obtain ⟨rfl, a1, b1⟩ := r1 x1 y1
      rw [y1] at r2 s1
      obtain ⟨rfl, a2, b2⟩ := r2 x2 y2
      rw [y1] at r3 r4 r5
      have y2' : pB (sN (.inr x1)) (pPt tp n 13 0 9) = .inr x2 := y2
      rw [y2'] at r3 r4 r5
      obtain ⟨rfl, a3, b3⟩ := r3 x3 y3
      have y3' : pB (sN (.inr x2)) (pPt tp n 5 1 9) = .inr x3 := y3
      rw [y3'] at r4 r5
      obtain ⟨rfl, a4, b4⟩ := r4 x4 y4
      have y4' : pB (sN (.inr x3)) (pPt tp n 6 1 9) = .inr x4 := y4
      rw [y4'] at r5
      obtain ⟨rfl, a5, b5⟩ := r5 x5 y5
      have o0 := K.O
      have o1 := o0.u_len b1
      have o2 := o1.u_sl b2
      have o3 := o2.u_h0 b3
      have o4 := o3.u_h1 b4
      have W0 := Q0.V.fr f1.1 (fun a z1 z2 z3 => by omega)
      have W1 := W0.u_len (m := pI M1 C 0 (n32 x1.1)) o0 b1 (fun a j hn => by rw [vi_pI, if_neg hn]) (vi_self _ _ _ _)
      have W1' := W1.fr f2.1 (fun a z1 z2 z3 => by omega)
      have W2 := W1'.u_sl (m := pI M2 C 1 (n32 x2.1)) o1 b2 (fun a j hn => by rw [vi_pI, if_neg hn]) (vi_self _ _ _ _)
      have W2' := W2.fr f3.1 (fun a z1 z2 z3 => by omega)
      have W3 := W2'.u_h0 (m := pI M3 (C + 1) 0 (n32 x3.1)) o2 b3 (fun a j hn => by rw [vi_pI, if_neg hn]) (vi_self _ _ _ _)
      have W3' := W3.fr f4.1 (fun a z1 z2 z3 => by omega)
      have W4 := W3'.u_h1 (m := pI M4 (C + 1) 1 (n32 x4.1)) o3 b4 (fun a j hn => by rw [vi_pI, if_neg hn]) (vi_self _ _ _ _)
      have W4' := W4.fr f5.1 (fun a z1 z2 z3 => by omega)
      have W5 := W4'.u_rate (m := pI M5 C 6 (n32 x5.1)) o4 b5 (fun a j hn => by rw [vi_pI, if_neg hn]) (vi_self _ _ _ _)
      obtain ⟨M8, hM8⟩ : ∃ M8, M8 = pI (pI M5 C 6 (n32 x5.1)) C 8 (n32 1) := ⟨_, rfl⟩
      rw [← hM8]
      have W8 : ClothV M8 C (plC p x1.1 x2.1 x3.1 x4.1 x5.1) := by
        have e : ∀ a j, ¬ (a = C ∧ j = 8) → vi M8 a j = vi (pI M5 C 6 (n32 x5.1)) a j := fun a j hn => by rw [hM8, vi_pI, if_neg hn]
        exact ⟨by rw [e _ _ (by omega)]; exact W5.len , by rw [e _ _ (by omega)]; exact W5.sl , by rw [e _ _ (by omega)]; exact W5.cols , by rw [e _ _ (by omega)]; exact W5.kinds , by rw [e _ _ (by omega)]; exact W5.ms , by rw [e _ _ (by omega)]; exact W5.nn , by rw [e _ _ (by omega)]; exact W5.rate , by rw [e _ _ (by omega)]; exact W5.h0 , by rw [e _ _ (by omega)]; exact W5.h1 , fun r hr => by rw [e _ _ (by omega)]; exact W5.sm r hr, fun r hr => by rw [e _ _ (by omega)]; exact W5.col r hr, fun r hr => by rw [e _ _ (by omega)]; exact W5.tk r hr, fun r hr i => by rw [e _ _ (by omega)]; exact W5.nx r hr i, fun r hr => by rw [e _ _ (by omega)]; exact W5.par r hr, fun m hm => by rw [e _ _ (by omega)]; exact W5.mk m hm, fun m hm => by rw [e _ _ (by omega)]; exact W5.ml m hm, fun m i hm hi => by rw [e _ _ (by omega)]; exact W5.mr m i hm hi, fun i hi => by rw [e _ _ (by omega)]; exact W5.ns i hi, fun i hi => by rw [e _ _ (by omega)]; exact W5.nf i hi, fun i hi => by rw [e _ _ (by omega)]; exact W5.nt i hi⟩
      have kp : ∀ a j, C ≤ a → ¬ (a = C ∧ (j = 0 ∨ j = 1 ∨ j = 6 ∨ j = 8)) → ¬ (a = C + 1 ∧ (j = 0 ∨ j = 1)) → vi M8 a j = vi M0 a j := fun a j hc hn hn2 => by
        rw [hM8, vi_pI, if_neg (by omega), vi_pI, if_neg (by omega), f5.1.vi (by omega), vi_pI, if_neg (by omega), f4.1.vi (by omega), vi_pI, if_neg (by omega), f3.1.vi (by omega), vi_pI, if_neg (by omega), f2.1.vi (by omega), vi_pI, if_neg (by omega), f1.1.vi (by omega)]
      have lp : ∀ a j, C ≤ a → vl M8 a j = vl M0 a j := fun a j hc => by
        rw [hM8]
        show vl M5 a j = _
        rw [f5.1.vl (by omega)]
        show vl M4 a j = _
        rw [f4.1.vl (by omega)]
        show vl M3 a j = _
        rw [f3.1.vl (by omega)]
        show vl M2 a j = _
        rw [f2.1.vl (by omega)]
        show vl M1 a j = _
        rw [f1.1.vl (by omega)]
      exact ⟨W8, ⟨by rw [kp _ _ (by omega) (by omega) (by omega)]; exact Q0.N.nn, Q0.N.n14, fun i hi => by rw [lp _ _ (by omega), kp _ _ (by omega) (by omega) (by omega), kp _ _ (by omega) (by omega) (by omega)]; exact Q0.N.nw i hi, Q0.N.ok⟩, by rw [hM8, vi_self]; rfl, fun s c hs hc => by rw [kp _ _ (by omega) (by omega) (by omega)]; exact Q0.st s c hs hc, fun s i hs hi => by rw [kp _ _ (by omega) (by omega) (by omega)]; exact Q0.wv s i hs hi, fun s hs => by rw [kp _ _ (by omega) (by omega) (by omega)]; exact Q0.wm s hs, fun s hs => by rw [kp _ _ (by omega) (by omega) (by omega), setF_g (by decide)]; exact Q0.iw s hs, fun r hr => by rw [kp _ _ (by omega) (by omega) (by omega), setF_g (by decide)]; exact Q0.inx r hr, fun r hr => by rw [kp _ _ (by omega) (by omega) (by omega), setF_g (by decide)]; exact Q0.ian r hr, fun r hr hk => by rw [kp _ _ (by omega) (by omega) (by omega)]; exact Q0.z11 r hr hk⟩
  cases t : fl 0 0
  · have t0 : ¬ (fl 0 0 = true) := by rw [t]; decide
    have tv := Q.told
    rw [t] at tv
    obtain ⟨M1, e1, f1, s1⟩ := m_gos h s (fun q' hq => by cases hq; omega)
    obtain ⟨M', G, F, S, R⟩ := body _ M1 f1 s1
    refine ⟨M', ?_, ?_⟩
    · apply h_eq
      delta f_X10_readCloth
      rw [cl_eq]
      simp (disch := omega) only [hR_d, hT_d, hI_t, hI_f, hVI_s, hVL_s, hVR_s, hVT_s, hVV_s, hO_s, hB_0, hB_1, hB_2, hB_r, hU_0, hU_1, hU_2, hU_r, hX_r, hL_0, hL_1, hL_2, hL_r, hC_s, h_k0, h_k1, h_k2, h_k3, h_k4, h_k5, h_k6, h_k7, h_k8, h_k9, h_k10, h_k11, h_k12, h_k14, h_k16, h_k18, h_k20, h_k23, h_k24, h_k25, h_k32, h_k44, h_k48, h_k50, h_k54, h_k57, h_k58, h_k59, h_k60, h_k63, h_k97, h_k100, h_k122, h_k177, h_k255, h_k400, h_k450, h_k625, h_k649, h_k708, h_k800, h_k900, h_k2500, h_k22500, h_k45000, h_kn1, h_kn2, h_kJ, h_kU, h_eI, h_eL, h_eR, h_eT, h_b1, h_eZ, h_not, h_b2, h_b0, h_b0L, h_gI, h_gL, h_gN, h_gR, h_aI, h_aL, h_aR, h_aLen, h_tern, h_and, h_or, h_vN, h_vI, h_vJ, h_vA, h_cFv, h_cFs, h_toI, h_toL, h_toV, h_nO, h_nA, g_skip, g_brk, g_cnt, g_retV, g_seq, g_if, g_setI, g_setR, g_setL, g_inc, g_putI, g_putZ, g_putL, g_putR, g_upI, g_AI, g_AL, g_AR, g_UA, g_exp, g_retI, g_retL, g_retZ, g_scope, g_unBrk, g_sup, h_fn, argE_n, argE_i, argE_r, argE_l, argE_a, sto_0, sto_s, sto_n0, sto_ns, isL_i, isL_r, isL_n, isL_a, isL_l, isL_0, rcv_r, rcv_a, List.getElem?_cons_zero, List.getElem?_cons_succ, List.getElem?_nil, List.set_cons_zero, List.set_cons_succ, List.take_succ_cons, List.take_zero, List.take_nil, List.length_cons, List.length_nil, List.nil_append, List.cons_append, Nat.reduceAdd, Nat.reduceSub, Nat.reduceLT, Nat.reduceEqDiff, Nat.reduceLeDiff, Nat.zero_add, Nat.lt_irrefl, Nat.succ_sub_one, and_true, true_and, and_false, false_and, not_false_eq_true, not_true_eq_false, Bool.false_eq_true, Bool.not_true, Bool.not_false, Bool.not_eq_true', Bool.true_eq_false, decide_true, decide_false, decide_eq_true_eq, decide_eq_false_iff_not, Option.some.injEq, and_self, Nat.add_one_sub_one, Nat.lt_add_one, Nat.zero_lt_succ, Value.int.injEq, Value.ref.injEq, Value.long.injEq, exists_eq_left', exists_eq_left, Sum.inl.injEq, Sum.inr.injEq, i2z_b2i, h_vS, h_kN, n32_add, n32_mul, n32_inc, n_iEq, n_iNe, n_iLt, n_iLe, n_iGt, n_iGe, n_zEq, n_zLt, n_zLe, n_zGt, n_zGe, n_inb, n32_clamp, tg_pI, tg_pL, tg_pR, vr_pI, vr_pL, vl_pI, vl_pR, vi_pL, vi_pR, mN_pI, mN_pL, mN_pR, mU_pI, mU_pL, mU_pR, h.T.t, h.r4, h.D.t, tv, i2z_b2i, h_of e1]
      refine hS.mono G ?_
      rintro r e m ⟨rfl, rfl⟩
      simp only [hR_d, hT_d, hI_t, hI_f, hVI_s, hVL_s, hVR_s, hVT_s, hVV_s, hO_s, hB_0, hB_1, hB_2, hB_r, hU_0, hU_1, hU_2, hU_r, hX_r, hL_0, hL_1, hL_2, hL_r, hC_s, h_k0, h_k1, h_k2, h_k3, h_k4, h_k5, h_k6, h_k7, h_k8, h_k9, h_k10, h_k11, h_k12, h_k14, h_k16, h_k18, h_k20, h_k23, h_k24, h_k25, h_k32, h_k44, h_k48, h_k50, h_k54, h_k57, h_k58, h_k59, h_k60, h_k63, h_k97, h_k100, h_k122, h_k177, h_k255, h_k400, h_k450, h_k625, h_k649, h_k708, h_k800, h_k900, h_k2500, h_k22500, h_k45000, h_kn1, h_kn2, h_kJ, h_kU, h_eI, h_eL, h_eR, h_eT, h_b1, h_eZ, h_not, h_b2, h_b0, h_b0L, h_gI, h_gL, h_gN, h_gR, h_aI, h_aL, h_aR, h_aLen, h_tern, h_and, h_or, h_vN, h_vI, h_vJ, h_vA, h_cFv, h_cFs, h_toI, h_toL, h_toV, h_nO, h_nA, g_skip, g_brk, g_cnt, g_retV, g_seq, g_if, g_setI, g_setR, g_setL, g_inc, g_putI, g_putZ, g_putL, g_putR, g_upI, g_AI, g_AL, g_AR, g_UA, g_exp, g_retI, g_retL, g_retZ, g_scope, g_unBrk, g_sup, h_fn, argE_n, argE_i, argE_r, argE_l, argE_a, sto_0, sto_s, sto_n0, sto_ns, isL_i, isL_r, isL_n, isL_a, isL_l, isL_0, rcv_r, rcv_a, List.getElem?_cons_zero, List.getElem?_cons_succ, List.getElem?_nil, List.set_cons_zero, List.set_cons_succ, List.take_succ_cons, List.take_zero, List.take_nil, List.length_cons, List.length_nil, List.nil_append, List.cons_append, Nat.reduceAdd, Nat.reduceSub, Nat.reduceLT, Nat.reduceEqDiff, Nat.reduceLeDiff, Nat.zero_add, Nat.lt_irrefl, Nat.succ_sub_one, and_true, true_and, and_false, false_and, not_false_eq_true, not_true_eq_false, Bool.false_eq_true, Bool.not_true, Bool.not_false, Bool.not_eq_true', Bool.true_eq_false, decide_true, decide_false, decide_eq_true_eq, decide_eq_false_iff_not, Option.some.injEq, and_self, Nat.add_one_sub_one, Nat.lt_add_one, Nat.zero_lt_succ, Value.int.injEq, Value.ref.injEq, Value.long.injEq, exists_eq_left', exists_eq_left, Sum.inl.injEq, Sum.inr.injEq, i2z_b2i, h_vS, h_kN]
    · have g0 : gos tp n (.inr q) = .inr (tkE tp n q) := rfl
      rw [g0] at S R
      simp only [pB_r] at S R
      cases e1 : pPt tp n 12 4 60 (tkE tp n q) with
      | inl e =>
        rw [e1] at S
        exact MPo.f (by unfold pCloth; rw [if_neg t0, e1]; rfl) F S
      | inr x1 =>
      cases e2 : pPt tp n 13 0 9 x1.2 with
      | inl e =>
        rw [e1, show sN (.inr x1) = .inr x1.2 from rfl, pB_r, e2] at S
        exact MPo.f (by unfold pCloth; rw [if_neg t0, e1, pB_r, e2]; rfl) F S
      | inr x2 =>
      cases e3 : pPt tp n 5 1 9 x2.2 with
      | inl e =>
        rw [e1, show sN (.inr x1) = .inr x1.2 from rfl, pB_r, e2, show sN (.inr x2) = .inr x2.2 from rfl, pB_r, e3] at S
        exact MPo.f (by unfold pCloth; rw [if_neg t0, e1, pB_r, e2, pB_r, e3]; rfl) F S
      | inr x3 =>
      cases e4 : pPt tp n 6 1 9 x3.2 with
      | inl e =>
        rw [e1, show sN (.inr x1) = .inr x1.2 from rfl, pB_r, e2, show sN (.inr x2) = .inr x2.2 from rfl, pB_r, e3, show sN (.inr x3) = .inr x3.2 from rfl, pB_r, e4] at S
        exact MPo.f (by unfold pCloth; rw [if_neg t0, e1, pB_r, e2, pB_r, e3, pB_r, e4]; rfl) F S
      | inr x4 =>
      cases e5 : pPt tp n 14 1 5 x4.2 with
      | inl e =>
        rw [e1, show sN (.inr x1) = .inr x1.2 from rfl, pB_r, e2, show sN (.inr x2) = .inr x2.2 from rfl, pB_r, e3, show sN (.inr x3) = .inr x3.2 from rfl, pB_r, e4, show sN (.inr x4) = .inr x4.2 from rfl, pB_r, e5] at S
        exact MPo.f (by unfold pCloth; rw [if_neg t0, e1, pB_r, e2, pB_r, e3, pB_r, e4, pB_r, e5]; rfl) F S
      | inr x5 =>
        rw [e1, show sN (.inr x1) = .inr x1.2 from rfl, pB_r, e2, show sN (.inr x2) = .inr x2.2 from rfl, pB_r, e3, show sN (.inr x3) = .inr x3.2 from rfl, pB_r, e4, show sN (.inr x4) = .inr x4.2 from rfl, pB_r, e5] at S
        exact MPo.s (rd := (plC p x1.1 x2.1 x3.1 x4.1 x5.1, lo, nm, setF fl 0 0)) (by unfold pCloth; rw [if_neg t0, e1, pB_r, e2, pB_r, e3, pB_r, e4, pB_r, e5, pB_r]) F S (R x1 x2 x3 x4 x5 e1 e2 e3 e4 e5)
  · have tv := Q.told
    rw [t] at tv
    obtain ⟨M1, e1, f1, s1⟩ := m_flaw h s 3
    have h1 := f1.mb h
    obtain ⟨M2, e2, f2, s2⟩ := m_gos h1 s1 (fun q' hq => by cases hq)
    obtain ⟨M', G, F, S, -⟩ := body _ M2 (f1.trans f2) s2
    refine ⟨M', ?_, MPo.f (e := (3, tkP tp n q)) (by unfold pCloth; exact if_pos t) F S⟩
    apply h_eq
    delta f_X10_readCloth
    rw [cl_eq]
    simp (disch := omega) only [hR_d, hT_d, hI_t, hI_f, hVI_s, hVL_s, hVR_s, hVT_s, hVV_s, hO_s, hB_0, hB_1, hB_2, hB_r, hU_0, hU_1, hU_2, hU_r, hX_r, hL_0, hL_1, hL_2, hL_r, hC_s, h_k0, h_k1, h_k2, h_k3, h_k4, h_k5, h_k6, h_k7, h_k8, h_k9, h_k10, h_k11, h_k12, h_k14, h_k16, h_k18, h_k20, h_k23, h_k24, h_k25, h_k32, h_k44, h_k48, h_k50, h_k54, h_k57, h_k58, h_k59, h_k60, h_k63, h_k97, h_k100, h_k122, h_k177, h_k255, h_k400, h_k450, h_k625, h_k649, h_k708, h_k800, h_k900, h_k2500, h_k22500, h_k45000, h_kn1, h_kn2, h_kJ, h_kU, h_eI, h_eL, h_eR, h_eT, h_b1, h_eZ, h_not, h_b2, h_b0, h_b0L, h_gI, h_gL, h_gN, h_gR, h_aI, h_aL, h_aR, h_aLen, h_tern, h_and, h_or, h_vN, h_vI, h_vJ, h_vA, h_cFv, h_cFs, h_toI, h_toL, h_toV, h_nO, h_nA, g_skip, g_brk, g_cnt, g_retV, g_seq, g_if, g_setI, g_setR, g_setL, g_inc, g_putI, g_putZ, g_putL, g_putR, g_upI, g_AI, g_AL, g_AR, g_UA, g_exp, g_retI, g_retL, g_retZ, g_scope, g_unBrk, g_sup, h_fn, argE_n, argE_i, argE_r, argE_l, argE_a, sto_0, sto_s, sto_n0, sto_ns, isL_i, isL_r, isL_n, isL_a, isL_l, isL_0, rcv_r, rcv_a, List.getElem?_cons_zero, List.getElem?_cons_succ, List.getElem?_nil, List.set_cons_zero, List.set_cons_succ, List.take_succ_cons, List.take_zero, List.take_nil, List.length_cons, List.length_nil, List.nil_append, List.cons_append, Nat.reduceAdd, Nat.reduceSub, Nat.reduceLT, Nat.reduceEqDiff, Nat.reduceLeDiff, Nat.zero_add, Nat.lt_irrefl, Nat.succ_sub_one, and_true, true_and, and_false, false_and, not_false_eq_true, not_true_eq_false, Bool.false_eq_true, Bool.not_true, Bool.not_false, Bool.not_eq_true', Bool.true_eq_false, decide_true, decide_false, decide_eq_true_eq, decide_eq_false_iff_not, Option.some.injEq, and_self, Nat.add_one_sub_one, Nat.lt_add_one, Nat.zero_lt_succ, Value.int.injEq, Value.ref.injEq, Value.long.injEq, exists_eq_left', exists_eq_left, Sum.inl.injEq, Sum.inr.injEq, i2z_b2i, h_vS, h_kN, n32_add, n32_mul, n32_inc, n_iEq, n_iNe, n_iLt, n_iLe, n_iGt, n_iGe, n_zEq, n_zLt, n_zLe, n_zGt, n_zGe, n_inb, n32_clamp, tg_pI, tg_pL, tg_pR, vr_pI, vr_pL, vl_pI, vl_pR, vi_pL, vi_pR, mN_pI, mN_pL, mN_pR, mU_pI, mU_pL, mU_pR, h.T.t, h.r4, h.D.t, tv, i2z_b2i, h_of e1, h1.T.t, h_of e2]
    refine hS.mono G ?_
    rintro r e m ⟨rfl, rfl⟩
    simp only [hR_d, hT_d, hI_t, hI_f, hVI_s, hVL_s, hVR_s, hVT_s, hVV_s, hO_s, hB_0, hB_1, hB_2, hB_r, hU_0, hU_1, hU_2, hU_r, hX_r, hL_0, hL_1, hL_2, hL_r, hC_s, h_k0, h_k1, h_k2, h_k3, h_k4, h_k5, h_k6, h_k7, h_k8, h_k9, h_k10, h_k11, h_k12, h_k14, h_k16, h_k18, h_k20, h_k23, h_k24, h_k25, h_k32, h_k44, h_k48, h_k50, h_k54, h_k57, h_k58, h_k59, h_k60, h_k63, h_k97, h_k100, h_k122, h_k177, h_k255, h_k400, h_k450, h_k625, h_k649, h_k708, h_k800, h_k900, h_k2500, h_k22500, h_k45000, h_kn1, h_kn2, h_kJ, h_kU, h_eI, h_eL, h_eR, h_eT, h_b1, h_eZ, h_not, h_b2, h_b0, h_b0L, h_gI, h_gL, h_gN, h_gR, h_aI, h_aL, h_aR, h_aLen, h_tern, h_and, h_or, h_vN, h_vI, h_vJ, h_vA, h_cFv, h_cFs, h_toI, h_toL, h_toV, h_nO, h_nA, g_skip, g_brk, g_cnt, g_retV, g_seq, g_if, g_setI, g_setR, g_setL, g_inc, g_putI, g_putZ, g_putL, g_putR, g_upI, g_AI, g_AL, g_AR, g_UA, g_exp, g_retI, g_retL, g_retZ, g_scope, g_unBrk, g_sup, h_fn, argE_n, argE_i, argE_r, argE_l, argE_a, sto_0, sto_s, sto_n0, sto_ns, isL_i, isL_r, isL_n, isL_a, isL_l, isL_0, rcv_r, rcv_a, List.getElem?_cons_zero, List.getElem?_cons_succ, List.getElem?_nil, List.set_cons_zero, List.set_cons_succ, List.take_succ_cons, List.take_zero, List.take_nil, List.length_cons, List.length_nil, List.nil_append, List.cons_append, Nat.reduceAdd, Nat.reduceSub, Nat.reduceLT, Nat.reduceEqDiff, Nat.reduceLeDiff, Nat.zero_add, Nat.lt_irrefl, Nat.succ_sub_one, and_true, true_and, and_false, false_and, not_false_eq_true, not_true_eq_false, Bool.false_eq_true, Bool.not_true, Bool.not_false, Bool.not_eq_true', Bool.true_eq_false, decide_true, decide_false, decide_eq_true_eq, decide_eq_false_iff_not, Option.some.injEq, and_self, Nat.add_one_sub_one, Nat.lt_add_one, Nat.zero_lt_succ, Value.int.injEq, Value.ref.injEq, Value.long.injEq, exists_eq_left', exists_eq_left, Sum.inl.injEq, Sum.inr.injEq, i2z_b2i, h_vS, h_kN]

end
