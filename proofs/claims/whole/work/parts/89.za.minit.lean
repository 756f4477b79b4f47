/-! A NEW REFERENCE -/
def l10 : List (Nat × Nat × Nat) := [(22, 900, 5), (20, 59, 16), (20, 708, 17), (20, 177, 18), (20, 45000, 21), (20, 48, 26), (23, 22500, 27), (23, 100, 28), (21, 900, 29), (21, 900, 30), (21, 450, 31), (21, 625, 32)]
theorem x10_eq : b_X10_init = sSeq sSup (sSeq (sPutI 11 2 (eR 0) (eK (-1 : Int32))) (alcS 11 sRetV l10)) := rfl
/-- nothing told yet -/
def A0 (tp : Nat → Int32) : Ab := (false, p0, lo0, [], [], 0, tp, 0, 0, 0)
section
variable {M m : qM} {C : Nat}
theorem x10_init (ht : tg m C = (11, 33)) (hC : C < mN m) : f_X10_init [.ref C] m = some (none, alc C l10 (pI m C 2 (-1))) := by
  apply h_eq
  delta f_X10_init
  rw [x10_eq]
  have t2 : (tg (pI m C 2 (-1)) C).1 = 11 := by show (tg m C).1 = 11; rw [ht]
  simp only [h_fn, argE_n, argE_r, List.length_cons, List.length_nil, Nat.zero_add, true_and, g_seq, g_sup, hB_0, g_putI, h_eR, hVR_s, List.getElem?_cons_zero, h_kn1, hR_d, ht, hT_d]
  rw [h_alc rfl l10 (pI m C 2 (-1)) (by decide) t2 hC]
  simp only [hR_d, hT_d, hI_t, hI_f, hVI_s, hVL_s, hVR_s, hVT_s, hVV_s, hO_s, hB_0, hB_1, hB_2, hB_r, hU_0, hU_1, hU_2, hU_r, hX_r, hL_0, hL_1, hL_2, hL_r, hC_s, h_k0, h_k1, h_k2, h_k3, h_k4, h_k5, h_k6, h_k7, h_k8, h_k9, h_k10, h_k11, h_k12, h_k14, h_k16, h_k18, h_k20, h_k23, h_k24, h_k25, h_k32, h_k44, h_k48, h_k50, h_k54, h_k57, h_k58, h_k59, h_k60, h_k63, h_k97, h_k100, h_k122, h_k177, h_k255, h_k400, h_k450, h_k625, h_k649, h_k708, h_k800, h_k900, h_k2500, h_k22500, h_k45000, h_kn1, h_kn2, h_kJ, h_kU, h_eI, h_eL, h_eR, h_eT, h_b1, h_eZ, h_not, h_b2, h_b0, h_b0L, h_gI, h_gL, h_gN, h_gR, h_aI, h_aL, h_aR, h_aLen, h_tern, h_and, h_or, h_vN, h_vI, h_vJ, h_vA, h_cFv, h_cFs, h_toI, h_toL, h_toV, h_nO, h_nA, g_skip, g_brk, g_cnt, g_retV, g_seq, g_if, g_setI, g_setR, g_setL, g_inc, g_putI, g_putZ, g_putL, g_putR, g_upI, g_AI, g_AL, g_AR, g_UA, g_exp, g_retI, g_retL, g_retZ, g_scope, g_unBrk, g_sup, h_fn, argE_n, argE_i, argE_r, argE_l, argE_a, sto_0, sto_s, sto_n0, sto_ns, isL_i, isL_r, isL_n, isL_a, isL_l, isL_0, rcv_r, rcv_a, List.getElem?_cons_zero, List.getElem?_cons_succ, List.getElem?_nil, List.set_cons_zero, List.set_cons_succ, List.take_succ_cons, List.take_zero, List.take_nil, List.length_cons, List.length_nil, List.nil_append, List.cons_append, Nat.reduceAdd, Nat.reduceSub, Nat.reduceLT, Nat.reduceEqDiff, Nat.reduceLeDiff, Nat.zero_add, Nat.lt_irrefl, Nat.succ_sub_one, and_true, true_and, and_false, false_and, not_false_eq_true, not_true_eq_false, Bool.false_eq_true, Bool.not_true, Bool.not_false, Bool.not_eq_true', Bool.true_eq_false, decide_true, decide_false, decide_eq_true_eq, decide_eq_false_iff_not, Option.some.injEq, and_self, Nat.add_one_sub_one, Nat.lt_add_one, Nat.zero_lt_succ, Value.int.injEq, Value.ref.injEq, Value.long.injEq, exists_eq_left', exists_eq_left, Sum.inl.injEq, Sum.inr.injEq, i2z_b2i, h_vS, h_kN]
theorem new_model (tp : Nat → Int32) : ∃ M1, (∀ (e : qE) (Q : Nat → qM → Prop) (u : Hd (nO 11 33 f_X10_init, Q)), hE (nO 11 33 f_X10_init) e M Q u = hR (mN M) M1 Q ()) ∧ mN M1 = mN M + 13 ∧ mU M1 = mU M + 72400 ∧ (∀ a, a < mN M → tg M1 a = tg M a ∧ (∀ k, vi M1 a k = vi M a k) ∧ (∀ k, vl M1 a k = vl M a k) ∧ ∀ k, vr M1 a k = vr M a k) ∧ Mdl M1 (mN M) 0 (A0 tp) := by
  have x := x10_init (C := mN M) (m := mk1 M 11 33) (by rw [tg_mk1, if_pos rfl]) (by rw [mN_mk1]; omega)
  have nX : mN (pI (mk1 M 11 33) (mN M) 2 (-1)) = mN M + 1 := rfl
  have lt := fun {a : Nat} (ha : a < mN M + 1) => alc_lt (C := mN M) l10 (pI (mk1 M 11 33) (mN M) 2 (-1)) (a := a) ha
  refine ⟨alc (mN M) l10 (pI (mk1 M 11 33) (mN M) 2 (-1)), fun e Q u => ?_, ?_, ?_, fun a ha => ?_, ?_⟩
  · rw [h_nO, h_of x]; simp only [true_and]
  · rw [alc_N, nX]; rfl
  · have u1 := alc_U (C := mN M) l10 (pI (mk1 M 11 33) (mN M) 2 (-1))
    have u2 : mU (pI (mk1 M 11 33) (mN M) 2 (-1)) = mU M + 33 := rfl
    have u3 : (l10.map (fun x => x.2.1)).sum = 72367 := by decide
    omega
  · obtain ⟨g1, g2, g3, g4⟩ := lt (a := a) (by omega)
    refine ⟨?_, fun k => ?_, fun k => ?_, fun k => ?_⟩
    · rw [g1, tg_pI, tg_mk1, if_neg (by omega)]
    · rw [g2, vi_ne (by omega), vi_mk1, if_neg (by omega)]
    · rw [g3, vl_pI, vl_mk1, if_neg (by omega)]
    · rw [g4 (by omega), vr_pI, vr_mk1, if_neg (by omega)]
  · have v0 : ∀ j, j ≠ 2 → vi (alc (mN M) l10 (pI (mk1 M 11 33) (mN M) 2 (-1))) (mN M) j = n32 0 := fun j hj => by
      rw [(lt (a := mN M) (by omega)).2.1, vi_nk hj, vi_mk1, if_pos rfl]; rfl
    have t0 : tg (alc (mN M) l10 (pI (mk1 M 11 33) (mN M) 2 (-1))) (mN M) = (11, 33) := by rw [(lt (a := mN M) (by omega)).1, tg_pI, tg_mk1, if_pos rfl]
    have r := fun k => alc_vr (C := mN M) l10 (pI (mk1 M 11 33) (mN M) 2 (-1)) k (by rw [nX]; omega)
    have r3 : vr (alc (mN M) l10 (pI (mk1 M 11 33) (mN M) 2 (-1))) (mN M) 3 = none := by
      rw [r 3]
      show vr (mk1 M 11 33) (mN M) 3 = none
      rw [vr_mk1, if_pos rfl]
    have tt' : ∀ i, i < 12 → tg (alc (mN M) l10 (pI (mk1 M 11 33) (mN M) 2 (-1))) (mN M + (i + 1)) = (l10.map (fun x => (x.1, x.2.1))).getD i (0, 0) := fun i hi => by
      have := alc_tg (C := mN M) l10 (pI (mk1 M 11 33) (mN M) 2 (-1)) i hi
      rw [nX] at this
      rw [show mN M + (i + 1) = mN M + 1 + i by omega]; exact this
    have T : MdlT (alc (mN M) l10 (pI (mk1 M 11 33) (mN M) 2 (-1))) (mN M) := ⟨t0, r 5, r 16, r 17, r 18, r 21, r 26, r 27, r 28, r 29, r 30, r 31, r 32, tt' 0 (by decide), tt' 1 (by decide), tt' 2 (by decide), tt' 3 (by decide), tt' 4 (by decide), tt' 5 (by decide), tt' 6 (by decide), tt' 7 (by decide), tt' 8 (by decide), tt' 9 (by decide), tt' 10 (by decide), tt' 11 (by decide)⟩
    refine ⟨T, v0 1 (by decide), ?_, v0 13 (by decide), v0 6 (by decide), fun i hi => absurd hi (Nat.not_lt_zero _), fun _ => ⟨r3, rfl, rfl, rfl, rfl⟩, (fun z => by cases z), v0 19 (by decide), Nat.zero_le _, v0 20 (by decide), Nat.zero_le _, (fun i lo hi => by cases hi), (fun i lo hi => by cases hi)⟩
    rw [(lt (a := mN M) (by omega)).2.1, vi_self]; rfl
end
