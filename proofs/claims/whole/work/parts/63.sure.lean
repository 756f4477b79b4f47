/-! ROWS THAT SURELY LEAVE A MEETING -/
def mfB (p : Pl) (c0 c1 : Nat) (E0 E1 : Nat → Nat → Bool) : Bool := anyB (25 - c0) fun a => anyB (25 - c1) fun b => fitsB p (unitsN p (c0 + a) (c1 + b)) && jn p (E0 a) (E1 b)
def m0B (p : Pl) (lo : Lo) : Bool := mfB p (lC lo 0) (lC lo 1) (EL p lo 0 0) (EL p lo 1 0)
def sureB (p : Pl) (lo : Lo) (s r : Nat) : Bool := if anyB 8 (canW p lo (1 - s)) = true then allB 8 (fun x => !canW p lo (1 - s) x || m0B p (lAdd p (lAdd p lo s r) (1 - s) x)) else m0B p (lAdd p lo s r)
theorem m0B_true {p : Pl} {lo : Lo} (L : LoOK (pK p) lo) : m0B p lo = true ↔ ∃ a b, mtB p lo 0 0 a b = true := by
  have c0 := L.c 0 (by decide)
  have c1 := L.c 1 (by decide)
  unfold m0B mfB
  rw [anyB_true]
  constructor
  · rintro ⟨a, ha, h⟩
    obtain ⟨b, hb, h⟩ := anyB_true.mp h
    rw [Bool.and_eq_true] at h
    exact ⟨a, b, mtB_true.mpr ⟨by omega, by omega, h.1, h.2⟩⟩
  · rintro ⟨a, b, h⟩
    obtain ⟨h1, h2, h3, h4⟩ := mtB_true.mp h
    exact ⟨a, by omega, anyB_true.mpr ⟨b, by omega, by rw [Bool.and_eq_true]; exact ⟨h3, h4⟩⟩⟩
theorem lC_add (p : Pl) (lo : Lo) (s r : Nat) : lC (lAdd p lo s r) s = lC lo s + 1 := by
  show u1 (lC lo) s (lC lo s + 1) s = _
  simp [u1]
theorem lC_addN (p : Pl) (lo : Lo) {s t : Nat} (r : Nat) (h : t ≠ s) : lC (lAdd p lo s r) t = lC lo t := by
  show u1 (lC lo) s (lC lo s + 1) t = _
  simp [u1, h]
theorem lS_add (p : Pl) (lo : Lo) (s r c : Nat) : lS (lAdd p lo s r) s c = lS lo s c - tkc p r c := by
  show u2 (lS lo) s (pCol p r) (lS lo s (pCol p r) - pTk p r) s c = _
  unfold u2 tkc
  by_cases e : c = pCol p r
  · subst e; simp
  · rw [if_neg (fun z => e z.2), if_neg (fun z => e z.symm), Nat.sub_zero]
theorem lS_addN (p : Pl) (lo : Lo) {s t : Nat} (r c : Nat) (h : t ≠ s) : lS (lAdd p lo s r) t c = lS lo t c := by
  show u2 (lS lo) s (pCol p r) (lS lo s (pCol p r) - pTk p r) t c = _
  unfold u2
  rw [if_neg (fun z => h z.1)]
theorem lR_addN (p : Pl) (lo : Lo) {s t : Nat} (r i : Nat) (h : t ≠ s) : lR (lAdd p lo s r) t i = lR lo t i := by
  show u2 (lR lo) s (lC lo s) r t i = _
  unfold u2
  rw [if_neg (fun z => h z.1)]
theorem lastO_add (p : Pl) (lo : Lo) (s r : Nat) : lastO (lAdd p lo s r) s 0 = some r := by
  unfold lastO
  rw [lC_add, if_pos (by omega)]
  show some (u2 (lR lo) s (lC lo s) r s (lC lo s + 1 - 0 - 1)) = _
  simp [u2]
theorem lastO_addN (p : Pl) (lo : Lo) {s t : Nat} (r k : Nat) (h : t ≠ s) : lastO (lAdd p lo s r) t k = lastO lo t k := by
  unfold lastO
  rw [lC_addN p lo r h, lR_addN p lo r _ h]
theorem EL_add (p : Pl) (lo : Lo) (s r : Nat) : EL p (lAdd p lo s r) s 0 = fun n => EB p s (lS lo s 0 - tkc p r 0) (lS lo s 1 - tkc p r 1) n (some r) 0 0 := by
  funext n e
  unfold EL
  rw [lS_add, lS_add, lastO_add]
theorem EL_addN (p : Pl) (lo : Lo) {s t : Nat} (r k : Nat) (h : t ≠ s) : EL p (lAdd p lo s r) t k = EL p lo t k := by
  funext n e
  unfold EL
  rw [lS_addN p lo r _ h, lS_addN p lo r _ h, lastO_addN p lo r k h]
theorem hind_addN (p : Pl) (lo : Lo) {s t : Nat} (r x : Nat) (h : t ≠ s) : hind p (lAdd p lo s r) t x = hind p lo t x := by
  unfold hind
  rw [lC_addN p lo r h, lastO_addN p lo r 0 h, lS_addN p lo r _ h]
theorem canW_addN (p : Pl) (lo : Lo) {s t : Nat} (r : Nat) (h : t ≠ s) : canW p (lAdd p lo s r) t = canW p lo t := by
  funext x
  unfold canW
  rw [hind_addN p lo r x h]
theorem canW_t {p : Pl} {lo : Lo} {s r : Nat} (h : canW p lo s r = true) : r < pK p ∧ lC lo s < 24 ∧ folO p s (lastO lo s 0) r = true ∧ pTk p r ≤ lS lo s (pCol p r) := by
  unfold canW at h
  simp only [Bool.and_eq_true, decide_eq_true_eq] at h
  exact ⟨h.1, hind_0 h.2⟩
theorem tkc_st {p : Pl} {lo : Lo} {s r : Nat} (h : pTk p r ≤ lS lo s (pCol p r)) (c : Nat) : tkc p r c ≤ lS lo s c := by
  unfold tkc
  split
  · rename_i e; subst e; exact h
  · omega
theorem fit_le {p : Pl} {L R n mr s : Nat} (hs : s < 2) (hf : fitsB p (unitsN p L R) = true) (hm : mr < 24 → pLen p + pSl p < (mr + 1) * pH p s) (hn : n ≤ if s = 0 then L else R) (h24 : n ≤ 24) : n ≤ mr := by
  unfold fitsB unitsN at hf
  have hf := (of_decide_eq_true hf).2
  apply Nat.le_of_not_lt
  intro hlt
  have h1 := hm (by omega)
  have h2 : (mr + 1) * pH p s ≤ n * pH p s := Nat.mul_le_mul_right _ hlt
  match s, hs with
  | 0, _ =>
    have h3 : n * pH p 0 ≤ L * pH p 0 := Nat.mul_le_mul_right _ hn
    have h2 : (mr + 1) * pH p 0 ≤ n * pH p 0 := h2
    have h1 : pLen p + pSl p < (mr + 1) * pH p 0 := h1
    omega
  | 1, _ =>
    have h3 : n * pH p 1 ≤ R * pH p 1 := Nat.mul_le_mul_right _ hn
    have h2 : (mr + 1) * pH p 1 ≤ n * pH p 1 := h2
    have h1 : pLen p + pSl p < (mr + 1) * pH p 1 := h1
    omega
section
variable {M : qM} {B P L : Nat} {p : Pl} {lo : Lo} {K : Nat}
theorem q_meetsFrom (h : PlanAt M P p) (S : ScrT M B) {st0 st1 c0 c1 a0 a1 b0 b1 : Nat} (E0 : ExE M B p 0 a0 a1 st0) (E1 : ExE M B p 1 b0 b1 st1) (hc0 : c0 ≤ 24) (hc1 : c1 ≤ 24) (h0 : st0 < 9) (h1 : st1 < 9) : f_X1_meetsFrom [.ref (B + 45), .ref P, .int (n32 st0), .int (n32 c0), .int (n32 st1), .int (n32 c1)] M = some (some (.int (b2i (mfB p c0 c1 (fun a => EB p 0 a0 a1 a (fo st0) 0 0) (fun b => EB p 1 b0 b1 b (fo st1) 0 0)))), M) := by
  obtain ⟨m0, l0, m01, m02, m03, -⟩ := E0
  obtain ⟨m1, l1, m11, m12, m13, -⟩ := E1
  obtain ⟨E, hE⟩ : ∃ E : Nat → Nat → Bool, E = fun a b => fitsB p (unitsN p (c0 + a) (c1 + b)) && jn p (EB p 0 a0 a1 a (fo st0) 0 0) (EB p 1 b0 b1 b (fo st1) 0 0) := ⟨_, rfl⟩
  have key : hF f_X1_meetsFrom [.ref (B + 45), .ref P, .int (n32 st0), .int (n32 c0), .int (n32 st1), .int (n32 c1)] M (fun w M' => w = some (Value.int (b2i (mfB p c0 c1 (fun a => EB p 0 a0 a1 a (fo st0) 0 0) (fun b => EB p 1 b0 b1 b (fo st1) 0 0)))) ∧ M' = M) () := by
    have vf : (∀ a b, a < 25 - c0 → b < 25 - c1 → E a b = false) → mfB p c0 c1 (fun a => EB p 0 a0 a1 a (fo st0) 0 0) (fun b => EB p 1 b0 b1 b (fo st1) 0 0) = false := by
      intro hz
      refine anyB_false.mpr fun a ha => anyB_false.mpr fun b hb => ?_
      have := hz a b ha hb
      rw [hE] at this
      exact this
    have vt : ∀ a b, a < 25 - c0 → b < 25 - c1 → E a b = true → mfB p c0 c1 (fun a => EB p 0 a0 a1 a (fo st0) 0 0) (fun b => EB p 1 b0 b1 b (fo st1) 0 0) = true := by
      intro a b ha hb hz
      refine anyB_true.mpr ⟨a, ha, anyB_true.mpr ⟨b, hb, ?_⟩⟩
      rw [hE] at hz
      exact hz
    delta f_X1_meetsFrom b_X1_meetsFrom
    simp only [hR_d, hT_d, hI_t, hI_f, hVI_s, hVL_s, hVR_s, hVT_s, hVV_s, hO_s, hB_0, hB_1, hB_2, hB_r, hU_0, hU_1, hU_2, hU_r, hX_r, hL_0, hL_1, hL_2, hL_r, hC_s, h_k0, h_k1, h_k2, h_k3, h_k4, h_k5, h_k6, h_k7, h_k8, h_k9, h_k10, h_k11, h_k12, h_k14, h_k16, h_k18, h_k20, h_k23, h_k24, h_k25, h_k32, h_k44, h_k48, h_k50, h_k54, h_k57, h_k58, h_k59, h_k60, h_k63, h_k97, h_k100, h_k122, h_k177, h_k255, h_k400, h_k450, h_k625, h_k649, h_k708, h_k800, h_k900, h_k2500, h_k22500, h_k45000, h_kn1, h_kn2, h_kJ, h_kU, h_eI, h_eL, h_eR, h_eT, h_b1, h_eZ, h_not, h_b2, h_b0, h_b0L, h_gI, h_gL, h_gN, h_gR, h_aI, h_aL, h_aR, h_aLen, h_tern, h_and, h_or, h_vN, h_vI, h_vJ, h_vA, h_cFv, h_cFs, h_toI, h_toL, h_toV, h_nO, h_nA, g_skip, g_brk, g_cnt, g_retV, g_seq, g_if, g_setI, g_setR, g_setL, g_inc, g_putI, g_putZ, g_putL, g_putR, g_upI, g_AI, g_AL, g_AR, g_UA, g_exp, g_retI, g_retL, g_retZ, g_scope, g_unBrk, g_sup, h_fn, argE_n, argE_i, argE_r, argE_l, argE_a, sto_0, sto_s, sto_n0, sto_ns, isL_i, isL_r, isL_n, isL_a, isL_l, isL_0, rcv_r, rcv_a, List.getElem?_cons_zero, List.getElem?_cons_succ, List.getElem?_nil, List.set_cons_zero, List.set_cons_succ, List.take_succ_cons, List.take_zero, List.take_nil, List.length_cons, List.length_nil, List.nil_append, List.cons_append, Nat.reduceAdd, Nat.reduceSub, Nat.reduceLT, Nat.reduceEqDiff, Nat.reduceLeDiff, Nat.zero_add, Nat.lt_irrefl, Nat.succ_sub_one, and_true, true_and, and_false, false_and, not_false_eq_true, not_true_eq_false, Bool.false_eq_true, Bool.not_true, Bool.not_false, Bool.not_eq_true', Bool.true_eq_false, decide_true, decide_false, decide_eq_true_eq, decide_eq_false_iff_not, Option.some.injEq, and_self, Nat.add_one_sub_one, Nat.lt_add_one, Nat.zero_lt_succ, Value.int.injEq, Value.ref.injEq, Value.long.injEq, exists_eq_left', exists_eq_left, Sum.inl.injEq, Sum.inr.injEq, i2z_b2i, n32_add, n32_mul, n32_inc]
    refine h_up (fun a e m => e = [.ref (B + 45), .ref P, .int (n32 st0), .int (n32 c0), .int (n32 st1), .int (n32 c1), .int (n32 a)] ∧ m = M ∧ ∀ a' b', a' < a → b' < 25 - c1 → E a' b' = false) (25 - c0) ⟨rfl, rfl, fun a' b' z => by omega⟩ ?_ ?_
    · rintro a e m ha ⟨rfl, rfl, J⟩
      simp (disch := omega) only [hR_d, hT_d, hI_t, hI_f, hVI_s, hVL_s, hVR_s, hVT_s, hVV_s, hO_s, hB_0, hB_1, hB_2, hB_r, hU_0, hU_1, hU_2, hU_r, hX_r, hL_0, hL_1, hL_2, hL_r, hC_s, h_k0, h_k1, h_k2, h_k3, h_k4, h_k5, h_k6, h_k7, h_k8, h_k9, h_k10, h_k11, h_k12, h_k14, h_k16, h_k18, h_k20, h_k23, h_k24, h_k25, h_k32, h_k44, h_k48, h_k50, h_k54, h_k57, h_k58, h_k59, h_k60, h_k63, h_k97, h_k100, h_k122, h_k177, h_k255, h_k400, h_k450, h_k625, h_k649, h_k708, h_k800, h_k900, h_k2500, h_k22500, h_k45000, h_kn1, h_kn2, h_kJ, h_kU, h_eI, h_eL, h_eR, h_eT, h_b1, h_eZ, h_not, h_b2, h_b0, h_b0L, h_gI, h_gL, h_gN, h_gR, h_aI, h_aL, h_aR, h_aLen, h_tern, h_and, h_or, h_vN, h_vI, h_vJ, h_vA, h_cFv, h_cFs, h_toI, h_toL, h_toV, h_nO, h_nA, g_skip, g_brk, g_cnt, g_retV, g_seq, g_if, g_setI, g_setR, g_setL, g_inc, g_putI, g_putZ, g_putL, g_putR, g_upI, g_AI, g_AL, g_AR, g_UA, g_exp, g_retI, g_retL, g_retZ, g_scope, g_unBrk, g_sup, h_fn, argE_n, argE_i, argE_r, argE_l, argE_a, sto_0, sto_s, sto_n0, sto_ns, isL_i, isL_r, isL_n, isL_a, isL_l, isL_0, rcv_r, rcv_a, List.getElem?_cons_zero, List.getElem?_cons_succ, List.getElem?_nil, List.set_cons_zero, List.set_cons_succ, List.take_succ_cons, List.take_zero, List.take_nil, List.length_cons, List.length_nil, List.nil_append, List.cons_append, Nat.reduceAdd, Nat.reduceSub, Nat.reduceLT, Nat.reduceEqDiff, Nat.reduceLeDiff, Nat.zero_add, Nat.lt_irrefl, Nat.succ_sub_one, and_true, true_and, and_false, false_and, not_false_eq_true, not_true_eq_false, Bool.false_eq_true, Bool.not_true, Bool.not_false, Bool.not_eq_true', Bool.true_eq_false, decide_true, decide_false, decide_eq_true_eq, decide_eq_false_iff_not, Option.some.injEq, and_self, Nat.add_one_sub_one, Nat.lt_add_one, Nat.zero_lt_succ, Value.int.injEq, Value.ref.injEq, Value.long.injEq, exists_eq_left', exists_eq_left, Sum.inl.injEq, Sum.inr.injEq, i2z_b2i, n32_add, n32_mul, n32_inc, n_iEq, n_iNe, n_iLt, n_iLe, n_iGt, n_iGe, n_zEq, n_zLt, n_zLe, n_zGt, n_zGe, n_inb, n32_clamp, n32_sub, show a ≤ 24 - c0 by omega]
      refine h_up (fun b e m' => e = [.ref (B + 45), .ref P, .int (n32 st0), .int (n32 c0), .int (n32 st1), .int (n32 c1), .int (n32 a), .int (n32 b)] ∧ m' = m ∧ ∀ b', b' < b → E a b' = false) (25 - c1) ⟨rfl, rfl, fun b' z => by omega⟩ ?_ ?_
      · rintro b e m' hb ⟨rfl, rfl, J2⟩
        have skip : E a b = false → ∀ b', b' < b + 1 → E a b' = false := by
          intro hz b' hb'
          by_cases e : b' = b
          · subst e; exact hz
          · exact J2 b' (by omega)
        have qf : f_X4_fits [.ref P, .int (n32 ((c0 + a) * pH p 0 + (c1 + b) * pH p 1))] m' = some (some (.int (b2i (fitsB p (unitsN p (c0 + a) (c1 + b))))), m') := q_fits h (units_lt h.O (show c0 + a ≤ 48 by omega) (show c1 + b ≤ 48 by omega))
        cases ef : fitsB p (unitsN p (c0 + a) (c1 + b))
        · have sk := skip (by rw [hE]; show (fitsB p _ && _) = false; rw [ef]; rfl)
          simp (disch := omega) only [hR_d, hT_d, hI_t, hI_f, hVI_s, hVL_s, hVR_s, hVT_s, hVV_s, hO_s, hB_0, hB_1, hB_2, hB_r, hU_0, hU_1, hU_2, hU_r, hX_r, hL_0, hL_1, hL_2, hL_r, hC_s, h_k0, h_k1, h_k2, h_k3, h_k4, h_k5, h_k6, h_k7, h_k8, h_k9, h_k10, h_k11, h_k12, h_k14, h_k16, h_k18, h_k20, h_k23, h_k24, h_k25, h_k32, h_k44, h_k48, h_k50, h_k54, h_k57, h_k58, h_k59, h_k60, h_k63, h_k97, h_k100, h_k122, h_k177, h_k255, h_k400, h_k450, h_k625, h_k649, h_k708, h_k800, h_k900, h_k2500, h_k22500, h_k45000, h_kn1, h_kn2, h_kJ, h_kU, h_eI, h_eL, h_eR, h_eT, h_b1, h_eZ, h_not, h_b2, h_b0, h_b0L, h_gI, h_gL, h_gN, h_gR, h_aI, h_aL, h_aR, h_aLen, h_tern, h_and, h_or, h_vN, h_vI, h_vJ, h_vA, h_cFv, h_cFs, h_toI, h_toL, h_toV, h_nO, h_nA, g_skip, g_brk, g_cnt, g_retV, g_seq, g_if, g_setI, g_setR, g_setL, g_inc, g_putI, g_putZ, g_putL, g_putR, g_upI, g_AI, g_AL, g_AR, g_UA, g_exp, g_retI, g_retL, g_retZ, g_scope, g_unBrk, g_sup, h_fn, argE_n, argE_i, argE_r, argE_l, argE_a, sto_0, sto_s, sto_n0, sto_ns, isL_i, isL_r, isL_n, isL_a, isL_l, isL_0, rcv_r, rcv_a, List.getElem?_cons_zero, List.getElem?_cons_succ, List.getElem?_nil, List.set_cons_zero, List.set_cons_succ, List.take_succ_cons, List.take_zero, List.take_nil, List.length_cons, List.length_nil, List.nil_append, List.cons_append, Nat.reduceAdd, Nat.reduceSub, Nat.reduceLT, Nat.reduceEqDiff, Nat.reduceLeDiff, Nat.zero_add, Nat.lt_irrefl, Nat.succ_sub_one, and_true, true_and, and_false, false_and, not_false_eq_true, not_true_eq_false, Bool.false_eq_true, Bool.not_true, Bool.not_false, Bool.not_eq_true', Bool.true_eq_false, decide_true, decide_false, decide_eq_true_eq, decide_eq_false_iff_not, Option.some.injEq, and_self, Nat.add_one_sub_one, Nat.lt_add_one, Nat.zero_lt_succ, Value.int.injEq, Value.ref.injEq, Value.long.injEq, exists_eq_left', exists_eq_left, Sum.inl.injEq, Sum.inr.injEq, i2z_b2i, n32_add, n32_mul, n32_inc, n_iEq, n_iNe, n_iLt, n_iLe, n_iGt, n_iGe, n_zEq, n_zLt, n_zLe, n_zGt, n_zGe, n_inb, n32_clamp, n32_sub, show b ≤ 24 - c1 by omega, h.T.t, h_of (q_unitsOf h _ _), h_of qf, ef]
          exact sk
        · have la := fit_le (s := 0) (by decide) ef m02 (show a ≤ c0 + a by omega) (by omega)
          have lb := fit_le (s := 1) (by decide) ef m12 (show b ≤ c1 + b by omega) (by omega)
          have bx : bt (vi m' (B + 51) ((0 * 9 + st0) * 25 + a)) = EB p 0 a0 a1 a (fo st0) 0 0 := funext fun i => by rw [m03 a (by omega) i, decide_eq_true la]; rfl
          have by' : bt (vi m' (B + 51) ((1 * 9 + st1) * 25 + b)) = EB p 1 b0 b1 b (fo st1) 0 0 := funext fun i => by rw [m13 b (by omega) i, decide_eq_true lb]; rfl
          have eE : E a b = jn p (EB p 0 a0 a1 a (fo st0) 0 0) (EB p 1 b0 b1 b (fo st1) 0 0) := by rw [hE]; show (fitsB p _ && _) = _; rw [ef]; rfl
          simp (disch := omega) only [hR_d, hT_d, hI_t, hI_f, hVI_s, hVL_s, hVR_s, hVT_s, hVV_s, hO_s, hB_0, hB_1, hB_2, hB_r, hU_0, hU_1, hU_2, hU_r, hX_r, hL_0, hL_1, hL_2, hL_r, hC_s, h_k0, h_k1, h_k2, h_k3, h_k4, h_k5, h_k6, h_k7, h_k8, h_k9, h_k10, h_k11, h_k12, h_k14, h_k16, h_k18, h_k20, h_k23, h_k24, h_k25, h_k32, h_k44, h_k48, h_k50, h_k54, h_k57, h_k58, h_k59, h_k60, h_k63, h_k97, h_k100, h_k122, h_k177, h_k255, h_k400, h_k450, h_k625, h_k649, h_k708, h_k800, h_k900, h_k2500, h_k22500, h_k45000, h_kn1, h_kn2, h_kJ, h_kU, h_eI, h_eL, h_eR, h_eT, h_b1, h_eZ, h_not, h_b2, h_b0, h_b0L, h_gI, h_gL, h_gN, h_gR, h_aI, h_aL, h_aR, h_aLen, h_tern, h_and, h_or, h_vN, h_vI, h_vJ, h_vA, h_cFv, h_cFs, h_toI, h_toL, h_toV, h_nO, h_nA, g_skip, g_brk, g_cnt, g_retV, g_seq, g_if, g_setI, g_setR, g_setL, g_inc, g_putI, g_putZ, g_putL, g_putR, g_upI, g_AI, g_AL, g_AR, g_UA, g_exp, g_retI, g_retL, g_retZ, g_scope, g_unBrk, g_sup, h_fn, argE_n, argE_i, argE_r, argE_l, argE_a, sto_0, sto_s, sto_n0, sto_ns, isL_i, isL_r, isL_n, isL_a, isL_l, isL_0, rcv_r, rcv_a, List.getElem?_cons_zero, List.getElem?_cons_succ, List.getElem?_nil, List.set_cons_zero, List.set_cons_succ, List.take_succ_cons, List.take_zero, List.take_nil, List.length_cons, List.length_nil, List.nil_append, List.cons_append, Nat.reduceAdd, Nat.reduceSub, Nat.reduceLT, Nat.reduceEqDiff, Nat.reduceLeDiff, Nat.zero_add, Nat.lt_irrefl, Nat.succ_sub_one, and_true, true_and, and_false, false_and, not_false_eq_true, not_true_eq_false, Bool.false_eq_true, Bool.not_true, Bool.not_false, Bool.not_eq_true', Bool.true_eq_false, decide_true, decide_false, decide_eq_true_eq, decide_eq_false_iff_not, Option.some.injEq, and_self, Nat.add_one_sub_one, Nat.lt_add_one, Nat.zero_lt_succ, Value.int.injEq, Value.ref.injEq, Value.long.injEq, exists_eq_left', exists_eq_left, Sum.inl.injEq, Sum.inr.injEq, i2z_b2i, n32_add, n32_mul, n32_inc, n_iEq, n_iNe, n_iLt, n_iLe, n_iGt, n_iGe, n_zEq, n_zLt, n_zLe, n_zGt, n_zGe, n_inb, n32_clamp, n32_sub, show b ≤ 24 - c1 by omega, h.T.t, h_of (q_unitsOf h _ _), h_of qf, ef, S.t45, h_of (q_lastsOf S (show 0 < 2 by decide) h0 (show a ≤ 24 by omega)), h_of (q_lastsOf S (show 1 < 2 by decide) h1 (show b ≤ 24 by omega)), h_of (q_joins h _ _), bx, by', ← eE]
          cases ee : E a b
          · simp (disch := omega) only [hR_d, hT_d, hI_t, hI_f, hVI_s, hVL_s, hVR_s, hVT_s, hVV_s, hO_s, hB_0, hB_1, hB_2, hB_r, hU_0, hU_1, hU_2, hU_r, hX_r, hL_0, hL_1, hL_2, hL_r, hC_s, h_k0, h_k1, h_k2, h_k3, h_k4, h_k5, h_k6, h_k7, h_k8, h_k9, h_k10, h_k11, h_k12, h_k14, h_k16, h_k18, h_k20, h_k23, h_k24, h_k25, h_k32, h_k44, h_k48, h_k50, h_k54, h_k57, h_k58, h_k59, h_k60, h_k63, h_k97, h_k100, h_k122, h_k177, h_k255, h_k400, h_k450, h_k625, h_k649, h_k708, h_k800, h_k900, h_k2500, h_k22500, h_k45000, h_kn1, h_kn2, h_kJ, h_kU, h_eI, h_eL, h_eR, h_eT, h_b1, h_eZ, h_not, h_b2, h_b0, h_b0L, h_gI, h_gL, h_gN, h_gR, h_aI, h_aL, h_aR, h_aLen, h_tern, h_and, h_or, h_vN, h_vI, h_vJ, h_vA, h_cFv, h_cFs, h_toI, h_toL, h_toV, h_nO, h_nA, g_skip, g_brk, g_cnt, g_retV, g_seq, g_if, g_setI, g_setR, g_setL, g_inc, g_putI, g_putZ, g_putL, g_putR, g_upI, g_AI, g_AL, g_AR, g_UA, g_exp, g_retI, g_retL, g_retZ, g_scope, g_unBrk, g_sup, h_fn, argE_n, argE_i, argE_r, argE_l, argE_a, sto_0, sto_s, sto_n0, sto_ns, isL_i, isL_r, isL_n, isL_a, isL_l, isL_0, rcv_r, rcv_a, List.getElem?_cons_zero, List.getElem?_cons_succ, List.getElem?_nil, List.set_cons_zero, List.set_cons_succ, List.take_succ_cons, List.take_zero, List.take_nil, List.length_cons, List.length_nil, List.nil_append, List.cons_append, Nat.reduceAdd, Nat.reduceSub, Nat.reduceLT, Nat.reduceEqDiff, Nat.reduceLeDiff, Nat.zero_add, Nat.lt_irrefl, Nat.succ_sub_one, and_true, true_and, and_false, false_and, not_false_eq_true, not_true_eq_false, Bool.false_eq_true, Bool.not_true, Bool.not_false, Bool.not_eq_true', Bool.true_eq_false, decide_true, decide_false, decide_eq_true_eq, decide_eq_false_iff_not, Option.some.injEq, and_self, Nat.add_one_sub_one, Nat.lt_add_one, Nat.zero_lt_succ, Value.int.injEq, Value.ref.injEq, Value.long.injEq, exists_eq_left', exists_eq_left, Sum.inl.injEq, Sum.inr.injEq, i2z_b2i, n32_add, n32_mul, n32_inc]
            exact skip ee
          · have v := vt a b ha hb ee
            simp (disch := omega) only [hR_d, hT_d, hI_t, hI_f, hVI_s, hVL_s, hVR_s, hVT_s, hVV_s, hO_s, hB_0, hB_1, hB_2, hB_r, hU_0, hU_1, hU_2, hU_r, hX_r, hL_0, hL_1, hL_2, hL_r, hC_s, h_k0, h_k1, h_k2, h_k3, h_k4, h_k5, h_k6, h_k7, h_k8, h_k9, h_k10, h_k11, h_k12, h_k14, h_k16, h_k18, h_k20, h_k23, h_k24, h_k25, h_k32, h_k44, h_k48, h_k50, h_k54, h_k57, h_k58, h_k59, h_k60, h_k63, h_k97, h_k100, h_k122, h_k177, h_k255, h_k400, h_k450, h_k625, h_k649, h_k708, h_k800, h_k900, h_k2500, h_k22500, h_k45000, h_kn1, h_kn2, h_kJ, h_kU, h_eI, h_eL, h_eR, h_eT, h_b1, h_eZ, h_not, h_b2, h_b0, h_b0L, h_gI, h_gL, h_gN, h_gR, h_aI, h_aL, h_aR, h_aLen, h_tern, h_and, h_or, h_vN, h_vI, h_vJ, h_vA, h_cFv, h_cFs, h_toI, h_toL, h_toV, h_nO, h_nA, g_skip, g_brk, g_cnt, g_retV, g_seq, g_if, g_setI, g_setR, g_setL, g_inc, g_putI, g_putZ, g_putL, g_putR, g_upI, g_AI, g_AL, g_AR, g_UA, g_exp, g_retI, g_retL, g_retZ, g_scope, g_unBrk, g_sup, h_fn, argE_n, argE_i, argE_r, argE_l, argE_a, sto_0, sto_s, sto_n0, sto_ns, isL_i, isL_r, isL_n, isL_a, isL_l, isL_0, rcv_r, rcv_a, List.getElem?_cons_zero, List.getElem?_cons_succ, List.getElem?_nil, List.set_cons_zero, List.set_cons_succ, List.take_succ_cons, List.take_zero, List.take_nil, List.length_cons, List.length_nil, List.nil_append, List.cons_append, Nat.reduceAdd, Nat.reduceSub, Nat.reduceLT, Nat.reduceEqDiff, Nat.reduceLeDiff, Nat.zero_add, Nat.lt_irrefl, Nat.succ_sub_one, and_true, true_and, and_false, false_and, not_false_eq_true, not_true_eq_false, Bool.false_eq_true, Bool.not_true, Bool.not_false, Bool.not_eq_true', Bool.true_eq_false, decide_true, decide_false, decide_eq_true_eq, decide_eq_false_iff_not, Option.some.injEq, and_self, Nat.add_one_sub_one, Nat.lt_add_one, Nat.zero_lt_succ, Value.int.injEq, Value.ref.injEq, Value.long.injEq, exists_eq_left', exists_eq_left, Sum.inl.injEq, Sum.inr.injEq, i2z_b2i, n32_add, n32_mul, n32_inc, v]
            exact ⟨rfl, rfl⟩
      · rintro e m' ⟨rfl, rfl, J2⟩
        simp (disch := omega) only [hR_d, hT_d, hI_t, hI_f, hVI_s, hVL_s, hVR_s, hVT_s, hVV_s, hO_s, hB_0, hB_1, hB_2, hB_r, hU_0, hU_1, hU_2, hU_r, hX_r, hL_0, hL_1, hL_2, hL_r, hC_s, h_k0, h_k1, h_k2, h_k3, h_k4, h_k5, h_k6, h_k7, h_k8, h_k9, h_k10, h_k11, h_k12, h_k14, h_k16, h_k18, h_k20, h_k23, h_k24, h_k25, h_k32, h_k44, h_k48, h_k50, h_k54, h_k57, h_k58, h_k59, h_k60, h_k63, h_k97, h_k100, h_k122, h_k177, h_k255, h_k400, h_k450, h_k625, h_k649, h_k708, h_k800, h_k900, h_k2500, h_k22500, h_k45000, h_kn1, h_kn2, h_kJ, h_kU, h_eI, h_eL, h_eR, h_eT, h_b1, h_eZ, h_not, h_b2, h_b0, h_b0L, h_gI, h_gL, h_gN, h_gR, h_aI, h_aL, h_aR, h_aLen, h_tern, h_and, h_or, h_vN, h_vI, h_vJ, h_vA, h_cFv, h_cFs, h_toI, h_toL, h_toV, h_nO, h_nA, g_skip, g_brk, g_cnt, g_retV, g_seq, g_if, g_setI, g_setR, g_setL, g_inc, g_putI, g_putZ, g_putL, g_putR, g_upI, g_AI, g_AL, g_AR, g_UA, g_exp, g_retI, g_retL, g_retZ, g_scope, g_unBrk, g_sup, h_fn, argE_n, argE_i, argE_r, argE_l, argE_a, sto_0, sto_s, sto_n0, sto_ns, isL_i, isL_r, isL_n, isL_a, isL_l, isL_0, rcv_r, rcv_a, List.getElem?_cons_zero, List.getElem?_cons_succ, List.getElem?_nil, List.set_cons_zero, List.set_cons_succ, List.take_succ_cons, List.take_zero, List.take_nil, List.length_cons, List.length_nil, List.nil_append, List.cons_append, Nat.reduceAdd, Nat.reduceSub, Nat.reduceLT, Nat.reduceEqDiff, Nat.reduceLeDiff, Nat.zero_add, Nat.lt_irrefl, Nat.succ_sub_one, and_true, true_and, and_false, false_and, not_false_eq_true, not_true_eq_false, Bool.false_eq_true, Bool.not_true, Bool.not_false, Bool.not_eq_true', Bool.true_eq_false, decide_true, decide_false, decide_eq_true_eq, decide_eq_false_iff_not, Option.some.injEq, and_self, Nat.add_one_sub_one, Nat.lt_add_one, Nat.zero_lt_succ, Value.int.injEq, Value.ref.injEq, Value.long.injEq, exists_eq_left', exists_eq_left, Sum.inl.injEq, Sum.inr.injEq, i2z_b2i, n32_add, n32_mul, n32_inc, n_iEq, n_iNe, n_iLt, n_iLe, n_iGt, n_iGe, n_zEq, n_zLt, n_zLe, n_zGt, n_zGe, n_inb, n32_clamp, n32_sub, show ¬ 25 - c1 ≤ 24 - c1 by omega]
        intro a' b' h1 h2
        by_cases e : a' = a
        · subst e; exact J2 b' h2
        · exact J a' b' (by omega) h2
    · rintro e m ⟨rfl, rfl, J⟩
      have v := vf (fun a b ha hb => J a b ha hb)
      simp (disch := omega) only [hR_d, hT_d, hI_t, hI_f, hVI_s, hVL_s, hVR_s, hVT_s, hVV_s, hO_s, hB_0, hB_1, hB_2, hB_r, hU_0, hU_1, hU_2, hU_r, hX_r, hL_0, hL_1, hL_2, hL_r, hC_s, h_k0, h_k1, h_k2, h_k3, h_k4, h_k5, h_k6, h_k7, h_k8, h_k9, h_k10, h_k11, h_k12, h_k14, h_k16, h_k18, h_k20, h_k23, h_k24, h_k25, h_k32, h_k44, h_k48, h_k50, h_k54, h_k57, h_k58, h_k59, h_k60, h_k63, h_k97, h_k100, h_k122, h_k177, h_k255, h_k400, h_k450, h_k625, h_k649, h_k708, h_k800, h_k900, h_k2500, h_k22500, h_k45000, h_kn1, h_kn2, h_kJ, h_kU, h_eI, h_eL, h_eR, h_eT, h_b1, h_eZ, h_not, h_b2, h_b0, h_b0L, h_gI, h_gL, h_gN, h_gR, h_aI, h_aL, h_aR, h_aLen, h_tern, h_and, h_or, h_vN, h_vI, h_vJ, h_vA, h_cFv, h_cFs, h_toI, h_toL, h_toV, h_nO, h_nA, g_skip, g_brk, g_cnt, g_retV, g_seq, g_if, g_setI, g_setR, g_setL, g_inc, g_putI, g_putZ, g_putL, g_putR, g_upI, g_AI, g_AL, g_AR, g_UA, g_exp, g_retI, g_retL, g_retZ, g_scope, g_unBrk, g_sup, h_fn, argE_n, argE_i, argE_r, argE_l, argE_a, sto_0, sto_s, sto_n0, sto_ns, isL_i, isL_r, isL_n, isL_a, isL_l, isL_0, rcv_r, rcv_a, List.getElem?_cons_zero, List.getElem?_cons_succ, List.getElem?_nil, List.set_cons_zero, List.set_cons_succ, List.take_succ_cons, List.take_zero, List.take_nil, List.length_cons, List.length_nil, List.nil_append, List.cons_append, Nat.reduceAdd, Nat.reduceSub, Nat.reduceLT, Nat.reduceEqDiff, Nat.reduceLeDiff, Nat.zero_add, Nat.lt_irrefl, Nat.succ_sub_one, and_true, true_and, and_false, false_and, not_false_eq_true, not_true_eq_false, Bool.false_eq_true, Bool.not_true, Bool.not_false, Bool.not_eq_true', Bool.true_eq_false, decide_true, decide_false, decide_eq_true_eq, decide_eq_false_iff_not, Option.some.injEq, and_self, Nat.add_one_sub_one, Nat.lt_add_one, Nat.zero_lt_succ, Value.int.injEq, Value.ref.injEq, Value.long.injEq, exists_eq_left', exists_eq_left, Sum.inl.injEq, Sum.inr.injEq, i2z_b2i, n32_add, n32_mul, n32_inc, n_iEq, n_iNe, n_iLt, n_iLe, n_iGt, n_iGe, n_zEq, n_zLt, n_zLe, n_zGt, n_zGe, n_inb, n32_clamp, n32_sub, show ¬ 25 - c0 ≤ 24 - c0 by omega, v]
      exact ⟨rfl, rfl⟩
  obtain ⟨w, m, h1, rfl, rfl⟩ := h_ex key
  exact h1
theorem q_learnBehind (h : PlanAt M P p) (S : ScrT M B) (g : LoomAt M L (pK p) lo) (hd : P + 12 < B + 45 ∨ B + 64 < P) (hl : L + 4 < B + 45 ∨ B + 64 < L) {s : Nat} (hs : s < 2) (y : Int32) (hy : ∀ r, bt y r = true → canW p lo s r = true) : ∃ M', f_X1_learnBehind [.ref (B + 45), .ref P, .ref L, .int (n32 s), .int y] M = some (none, M') ∧ Fr (fun a => B + 46 ≤ a ∧ a ≤ B + 53) M M' ∧ (∀ r, bt y r = true → ExE M' B p s (lS lo s 0 - tkc p r 0) (lS lo s 1 - tkc p r 1) r) ∧ ∀ k, (∀ r, bt y r = true → k ≠ s * 9 + r) → exK M M' B k := by
  have hK := h.O.kinds
  have c0 := g.O.st s 0 hs (by decide)
  have c1 := g.O.st s 1 hs (by decide)
  have key : hF f_X1_learnBehind [.ref (B + 45), .ref P, .ref L, .int (n32 s), .int y] M (fun w M' => w = none ∧ Fr (fun a => B + 46 ≤ a ∧ a ≤ B + 53) M M' ∧ (∀ r, bt y r = true → ExE M' B p s (lS lo s 0 - tkc p r 0) (lS lo s 1 - tkc p r 1) r) ∧ ∀ k, (∀ r, bt y r = true → k ≠ s * 9 + r) → exK M M' B k) () := by
    delta f_X1_learnBehind b_X1_learnBehind
    simp only [hR_d, hT_d, hI_t, hI_f, hVI_s, hVL_s, hVR_s, hVT_s, hVV_s, hO_s, hB_0, hB_1, hB_2, hB_r, hU_0, hU_1, hU_2, hU_r, hX_r, hL_0, hL_1, hL_2, hL_r, hC_s, h_k0, h_k1, h_k2, h_k3, h_k4, h_k5, h_k6, h_k7, h_k8, h_k9, h_k10, h_k11, h_k12, h_k14, h_k16, h_k18, h_k20, h_k23, h_k24, h_k25, h_k32, h_k44, h_k48, h_k50, h_k54, h_k57, h_k58, h_k59, h_k60, h_k63, h_k97, h_k100, h_k122, h_k177, h_k255, h_k400, h_k450, h_k625, h_k649, h_k708, h_k800, h_k900, h_k2500, h_k22500, h_k45000, h_kn1, h_kn2, h_kJ, h_kU, h_eI, h_eL, h_eR, h_eT, h_b1, h_eZ, h_not, h_b2, h_b0, h_b0L, h_gI, h_gL, h_gN, h_gR, h_aI, h_aL, h_aR, h_aLen, h_tern, h_and, h_or, h_vN, h_vI, h_vJ, h_vA, h_cFv, h_cFs, h_toI, h_toL, h_toV, h_nO, h_nA, g_skip, g_brk, g_cnt, g_retV, g_seq, g_if, g_setI, g_setR, g_setL, g_inc, g_putI, g_putZ, g_putL, g_putR, g_upI, g_AI, g_AL, g_AR, g_UA, g_exp, g_retI, g_retL, g_retZ, g_scope, g_unBrk, g_sup, h_fn, argE_n, argE_i, argE_r, argE_l, argE_a, sto_0, sto_s, sto_n0, sto_ns, isL_i, isL_r, isL_n, isL_a, isL_l, isL_0, rcv_r, rcv_a, List.getElem?_cons_zero, List.getElem?_cons_succ, List.getElem?_nil, List.set_cons_zero, List.set_cons_succ, List.take_succ_cons, List.take_zero, List.take_nil, List.length_cons, List.length_nil, List.nil_append, List.cons_append, Nat.reduceAdd, Nat.reduceSub, Nat.reduceLT, Nat.reduceEqDiff, Nat.reduceLeDiff, Nat.zero_add, Nat.lt_irrefl, Nat.succ_sub_one, and_true, true_and, and_false, false_and, not_false_eq_true, not_true_eq_false, Bool.false_eq_true, Bool.not_true, Bool.not_false, Bool.not_eq_true', Bool.true_eq_false, decide_true, decide_false, decide_eq_true_eq, decide_eq_false_iff_not, Option.some.injEq, and_self, Nat.add_one_sub_one, Nat.lt_add_one, Nat.zero_lt_succ, Value.int.injEq, Value.ref.injEq, Value.long.injEq, exists_eq_left', exists_eq_left, Sum.inl.injEq, Sum.inr.injEq, i2z_b2i, n32_add, n32_mul, n32_inc]
    refine h_up (fun j e m => e = [.ref (B + 45), .ref P, .ref L, .int (n32 s), .int y, .int (n32 j)] ∧ Fr (fun a => B + 46 ≤ a ∧ a ≤ B + 53) M m ∧ (∀ r, r < j → bt y r = true → ExE m B p s (lS lo s 0 - tkc p r 0) (lS lo s 1 - tkc p r 1) r) ∧ ∀ k, (∀ r, bt y r = true → k ≠ s * 9 + r) → exK M m B k) (pK p) ⟨rfl, Fr.refl _ _, fun r hr => by omega, fun k _ => exK.refl _ _ _⟩ ?_ ?_
    · rintro j e m hj ⟨rfl, f, J1, J2⟩
      have h' := h.fr f (fun a z1 z2 z3 => by omega)
      have g' := g.fr f (fun a z1 z2 z3 => by omega)
      have S' := S.fr f
      cases ey : bt y j
      · simp (disch := omega) only [hR_d, hT_d, hI_t, hI_f, hVI_s, hVL_s, hVR_s, hVT_s, hVV_s, hO_s, hB_0, hB_1, hB_2, hB_r, hU_0, hU_1, hU_2, hU_r, hX_r, hL_0, hL_1, hL_2, hL_r, hC_s, h_k0, h_k1, h_k2, h_k3, h_k4, h_k5, h_k6, h_k7, h_k8, h_k9, h_k10, h_k11, h_k12, h_k14, h_k16, h_k18, h_k20, h_k23, h_k24, h_k25, h_k32, h_k44, h_k48, h_k50, h_k54, h_k57, h_k58, h_k59, h_k60, h_k63, h_k97, h_k100, h_k122, h_k177, h_k255, h_k400, h_k450, h_k625, h_k649, h_k708, h_k800, h_k900, h_k2500, h_k22500, h_k45000, h_kn1, h_kn2, h_kJ, h_kU, h_eI, h_eL, h_eR, h_eT, h_b1, h_eZ, h_not, h_b2, h_b0, h_b0L, h_gI, h_gL, h_gN, h_gR, h_aI, h_aL, h_aR, h_aLen, h_tern, h_and, h_or, h_vN, h_vI, h_vJ, h_vA, h_cFv, h_cFs, h_toI, h_toL, h_toV, h_nO, h_nA, g_skip, g_brk, g_cnt, g_retV, g_seq, g_if, g_setI, g_setR, g_setL, g_inc, g_putI, g_putZ, g_putL, g_putR, g_upI, g_AI, g_AL, g_AR, g_UA, g_exp, g_retI, g_retL, g_retZ, g_scope, g_unBrk, g_sup, h_fn, argE_n, argE_i, argE_r, argE_l, argE_a, sto_0, sto_s, sto_n0, sto_ns, isL_i, isL_r, isL_n, isL_a, isL_l, isL_0, rcv_r, rcv_a, List.getElem?_cons_zero, List.getElem?_cons_succ, List.getElem?_nil, List.set_cons_zero, List.set_cons_succ, List.take_succ_cons, List.take_zero, List.take_nil, List.length_cons, List.length_nil, List.nil_append, List.cons_append, Nat.reduceAdd, Nat.reduceSub, Nat.reduceLT, Nat.reduceEqDiff, Nat.reduceLeDiff, Nat.zero_add, Nat.lt_irrefl, Nat.succ_sub_one, and_true, true_and, and_false, false_and, not_false_eq_true, not_true_eq_false, Bool.false_eq_true, Bool.not_true, Bool.not_false, Bool.not_eq_true', Bool.true_eq_false, decide_true, decide_false, decide_eq_true_eq, decide_eq_false_iff_not, Option.some.injEq, and_self, Nat.add_one_sub_one, Nat.lt_add_one, Nat.zero_lt_succ, Value.int.injEq, Value.ref.injEq, Value.long.injEq, exists_eq_left', exists_eq_left, Sum.inl.injEq, Sum.inr.injEq, i2z_b2i, n32_add, n32_mul, n32_inc, n_iEq, n_iNe, n_iLt, n_iLe, n_iGt, n_iGe, n_zEq, n_zLt, n_zLe, n_zGt, n_zGe, n_inb, n32_clamp, h'.T.t, h'.V.kinds, hj, h_of (q_hasBit y (show j < 32 by omega) _), ey]
        refine ⟨f, fun r hr er => ?_, J2⟩
        by_cases e : r = j
        · subst e; rw [ey] at er; cases er
        · exact J1 r (by omega) er
      · have cw := canW_t (hy j ey)
        have t0 := tkc_st cw.2.2.2 0
        have t1 := tkc_st cw.2.2.2 1
        obtain ⟨M1, e1, f1, E1, v1, u1⟩ := q_learn h' S' hd hs (o := some j) (fun r e => by cases e; exact hj) (s0 := lS lo s 0 - tkc p j 0) (s1 := lS lo s 1 - tkc p j 1) (by omega) (by omega)
        have tk0 := q_takesOf h' hj (show 0 < 2 by decide)
        have tk1 := q_takesOf h' hj (show 1 < 2 by decide)
        have e1' : f_X1_learn [.ref (B + 45), .ref P, .int (n32 s), .int (n32 j), .int (n32 (lS lo s 0 - tkc p j 0)), .int (n32 (lS lo s 1 - tkc p j 1))] m = some (none, M1) := e1
        have s0' : n32 (lS lo s 0) - n32 (if pCol p j = 0 then pTk p j else 0) = n32 (lS lo s 0 - tkc p j 0) := n32_sub t0
        have s1' : n32 (lS lo s 1) - n32 (if pCol p j = 1 then pTk p j else 0) = n32 (lS lo s 1 - tkc p j 1) := n32_sub t1
        simp (disch := omega) only [hR_d, hT_d, hI_t, hI_f, hVI_s, hVL_s, hVR_s, hVT_s, hVV_s, hO_s, hB_0, hB_1, hB_2, hB_r, hU_0, hU_1, hU_2, hU_r, hX_r, hL_0, hL_1, hL_2, hL_r, hC_s, h_k0, h_k1, h_k2, h_k3, h_k4, h_k5, h_k6, h_k7, h_k8, h_k9, h_k10, h_k11, h_k12, h_k14, h_k16, h_k18, h_k20, h_k23, h_k24, h_k25, h_k32, h_k44, h_k48, h_k50, h_k54, h_k57, h_k58, h_k59, h_k60, h_k63, h_k97, h_k100, h_k122, h_k177, h_k255, h_k400, h_k450, h_k625, h_k649, h_k708, h_k800, h_k900, h_k2500, h_k22500, h_k45000, h_kn1, h_kn2, h_kJ, h_kU, h_eI, h_eL, h_eR, h_eT, h_b1, h_eZ, h_not, h_b2, h_b0, h_b0L, h_gI, h_gL, h_gN, h_gR, h_aI, h_aL, h_aR, h_aLen, h_tern, h_and, h_or, h_vN, h_vI, h_vJ, h_vA, h_cFv, h_cFs, h_toI, h_toL, h_toV, h_nO, h_nA, g_skip, g_brk, g_cnt, g_retV, g_seq, g_if, g_setI, g_setR, g_setL, g_inc, g_putI, g_putZ, g_putL, g_putR, g_upI, g_AI, g_AL, g_AR, g_UA, g_exp, g_retI, g_retL, g_retZ, g_scope, g_unBrk, g_sup, h_fn, argE_n, argE_i, argE_r, argE_l, argE_a, sto_0, sto_s, sto_n0, sto_ns, isL_i, isL_r, isL_n, isL_a, isL_l, isL_0, rcv_r, rcv_a, List.getElem?_cons_zero, List.getElem?_cons_succ, List.getElem?_nil, List.set_cons_zero, List.set_cons_succ, List.take_succ_cons, List.take_zero, List.take_nil, List.length_cons, List.length_nil, List.nil_append, List.cons_append, Nat.reduceAdd, Nat.reduceSub, Nat.reduceLT, Nat.reduceEqDiff, Nat.reduceLeDiff, Nat.zero_add, Nat.lt_irrefl, Nat.succ_sub_one, and_true, true_and, and_false, false_and, not_false_eq_true, not_true_eq_false, Bool.false_eq_true, Bool.not_true, Bool.not_false, Bool.not_eq_true', Bool.true_eq_false, decide_true, decide_false, decide_eq_true_eq, decide_eq_false_iff_not, Option.some.injEq, and_self, Nat.add_one_sub_one, Nat.lt_add_one, Nat.zero_lt_succ, Value.int.injEq, Value.ref.injEq, Value.long.injEq, exists_eq_left', exists_eq_left, Sum.inl.injEq, Sum.inr.injEq, i2z_b2i, n32_add, n32_mul, n32_inc, n_iEq, n_iNe, n_iLt, n_iLe, n_iGt, n_iGe, n_zEq, n_zLt, n_zLe, n_zGt, n_zGe, n_inb, n32_clamp, h'.T.t, h'.V.kinds, hj, h_of (q_hasBit y (show j < 32 by omega) _), ey, S'.t45, g'.T.t, h_of (q_storeOf g' hs (show 0 < 2 by decide)), h_of (q_storeOf g' hs (show 1 < 2 by decide)), h_of tk0, h_of tk1, s0', s1', h_of e1']
        refine ⟨f.trans f1, fun r hr er => ?_, fun k hk => (J2 k hk).trans (u1 k (hk j ey))⟩
        by_cases e : r = j
        · subst e; exact E1
        · exact (J1 r (by omega) er).keep (u1 _ (by show s * 9 + r ≠ s * 9 + j; omega))
    · rintro e m ⟨rfl, f, J1, J2⟩
      have h' := h.fr f (fun a z1 z2 z3 => by omega)
      simp (disch := omega) only [hR_d, hT_d, hI_t, hI_f, hVI_s, hVL_s, hVR_s, hVT_s, hVV_s, hO_s, hB_0, hB_1, hB_2, hB_r, hU_0, hU_1, hU_2, hU_r, hX_r, hL_0, hL_1, hL_2, hL_r, hC_s, h_k0, h_k1, h_k2, h_k3, h_k4, h_k5, h_k6, h_k7, h_k8, h_k9, h_k10, h_k11, h_k12, h_k14, h_k16, h_k18, h_k20, h_k23, h_k24, h_k25, h_k32, h_k44, h_k48, h_k50, h_k54, h_k57, h_k58, h_k59, h_k60, h_k63, h_k97, h_k100, h_k122, h_k177, h_k255, h_k400, h_k450, h_k625, h_k649, h_k708, h_k800, h_k900, h_k2500, h_k22500, h_k45000, h_kn1, h_kn2, h_kJ, h_kU, h_eI, h_eL, h_eR, h_eT, h_b1, h_eZ, h_not, h_b2, h_b0, h_b0L, h_gI, h_gL, h_gN, h_gR, h_aI, h_aL, h_aR, h_aLen, h_tern, h_and, h_or, h_vN, h_vI, h_vJ, h_vA, h_cFv, h_cFs, h_toI, h_toL, h_toV, h_nO, h_nA, g_skip, g_brk, g_cnt, g_retV, g_seq, g_if, g_setI, g_setR, g_setL, g_inc, g_putI, g_putZ, g_putL, g_putR, g_upI, g_AI, g_AL, g_AR, g_UA, g_exp, g_retI, g_retL, g_retZ, g_scope, g_unBrk, g_sup, h_fn, argE_n, argE_i, argE_r, argE_l, argE_a, sto_0, sto_s, sto_n0, sto_ns, isL_i, isL_r, isL_n, isL_a, isL_l, isL_0, rcv_r, rcv_a, List.getElem?_cons_zero, List.getElem?_cons_succ, List.getElem?_nil, List.set_cons_zero, List.set_cons_succ, List.take_succ_cons, List.take_zero, List.take_nil, List.length_cons, List.length_nil, List.nil_append, List.cons_append, Nat.reduceAdd, Nat.reduceSub, Nat.reduceLT, Nat.reduceEqDiff, Nat.reduceLeDiff, Nat.zero_add, Nat.lt_irrefl, Nat.succ_sub_one, and_true, true_and, and_false, false_and, not_false_eq_true, not_true_eq_false, Bool.false_eq_true, Bool.not_true, Bool.not_false, Bool.not_eq_true', Bool.true_eq_false, decide_true, decide_false, decide_eq_true_eq, decide_eq_false_iff_not, Option.some.injEq, and_self, Nat.add_one_sub_one, Nat.lt_add_one, Nat.zero_lt_succ, Value.int.injEq, Value.ref.injEq, Value.long.injEq, exists_eq_left', exists_eq_left, Sum.inl.injEq, Sum.inr.injEq, i2z_b2i, n32_add, n32_mul, n32_inc, n_iEq, n_iNe, n_iLt, n_iLe, n_iGt, n_iGe, n_zEq, n_zLt, n_zLe, n_zGt, n_zGe, n_inb, n32_clamp, h'.T.t, h'.V.kinds]
      exact ⟨f, fun r er => J1 r (canW_t (hy r er)).1 er, J2⟩
  obtain ⟨w, m, h1, rfl, h2⟩ := h_ex key
  exact ⟨m, h1, h2⟩
end
