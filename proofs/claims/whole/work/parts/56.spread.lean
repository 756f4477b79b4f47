/-! THE SPREAD -/
theorem mMin_n {a b : Nat} (ha : a < 2147483648) (hb : b < 2147483648) : mMin (n32 a) (n32 b) = n32 (min a b) := by
  unfold mMin
  rw [Nat.min_def]
  by_cases e : b < a
  · rw [if_pos ((n32_lt hb ha).mpr e), if_neg (by omega)]
  · rw [if_neg (fun z => e ((n32_lt hb ha).mp z)), if_pos (by omega)]
theorem i2z_bt (x : Int32) : i2z x = true ↔ ∃ i, bt x i = true := by
  unfold i2z
  rw [decide_eq_true_eq, ne0_bt]
  constructor
  · rintro ⟨i, -, h⟩; exact ⟨i, h⟩
  · rintro ⟨i, h⟩
    refine ⟨i, Nat.lt_of_not_le fun z => ?_, h⟩
    rw [bt_ge z] at h; cases h
section
variable {M M0 m : qM} {B P : Nat} {p : Pl} {R : Nat → Nat → Bool} {F : Nat → Bool} {s0 s1 n a' b' : Nat}
/-- what is read at (n, a', b') -/
theorem spJ.read (h : spJ M0 B p R F s0 s1 n a' b' m) (hn : n ≤ 24) (ha : a' ≤ s0) (hb : b' ≤ s1) : ∀ r, bt (vi m (B + 49) (n * 100 + a' * 10 + b')) r = true ↔ FWL p R F s0 s1 n a' b' r := by
  obtain ⟨f, lg, lg0, V, g, hl⟩ := h
  intro r
  rw [V.ce n a' b' hn (by have := V.b0; omega) (by have := V.b1; omega) r]
  constructor
  · rintro (⟨-, z⟩ | ⟨z, -⟩)
    · exact z
    · omega
  · intro z; exact Or.inl ⟨Nat.le_refl _, z⟩
theorem spJ.skip (h : spJ M0 B p R F s0 s1 n a' b' m) (no : ∀ r, ¬ FWL p R F s0 s1 n a' b' r) : spJ M0 B p R F s0 s1 n a' (b' + 1) m := h.iff fun a b i => by
  constructor
  · rintro ⟨a0, b0, r, h1, h2⟩
    exact ⟨a0, b0, r, by omega, h2⟩
  · rintro ⟨a0, b0, r, h1, h2, h3⟩
    refine ⟨a0, b0, r, ?_, h2, h3⟩
    by_cases e : a0 = a' ∧ b0 = b'
    · obtain ⟨rfl, rfl⟩ := e; exact absurd h2 (no r)
    · omega
theorem spJ.sc (h : spJ M0 B p R F s0 s1 n a' b' m) : Fr (spS B) M0 m := h.1
theorem dj46 {B P : Nat} (hd : P + 12 < B + 45 ∨ B + 64 < P) : ∀ a, P ≤ a → a ≤ P + 12 → ¬ spS B a := fun a h1 h2 z => by have := z.1; have := z.2.1; omega
theorem spS_47 (B : Nat) : ¬ spS B (B + 47) := fun z => z.2.2 rfl
theorem StV.fr {M' : qM} {K : Nat} (h : StV M B K R) (f : Fr (spS B) M M') : StV M' B K R := fun r hr i => by rw [f.vi (spS_47 B)]; exact h r hr i
theorem spJ.len (h : PlanAt m P p) (S : ScrT m B) (hd : P + 12 < B + 45 ∨ B + 64 < P) (V : StV m B (pK p) R) (J : spJ M0 B p R F s0 s1 n a' b' m) (hn : n + 1 ≤ 24) (ha : a' ≤ s0) (hb : b' ≤ s1) : ∃ y M1, f_X7_followers [.ref (B + 46), .ref P, .int (vi m (B + 49) (n * 100 + a' * 10 + b'))] m = some (some (.int y), m) ∧ f_X7_lengthen [.ref (B + 46), .ref P, .int (n32 (n + 1)), .int (n32 a'), .int (n32 b'), .int y] m = some (none, M1) ∧ spJ M0 B p R F s0 s1 n a' (b' + 1) M1 := by
  have rd := J.read (by omega) ha hb
  obtain ⟨f, lg, lg0, W, g, hl⟩ := J
  have b0 := W.b0
  have b1 := W.b1
  obtain ⟨y, hy, hyb⟩ := q_followers h S V (vi m (B + 49) (n * 100 + a' * 10 + b'))
  obtain ⟨M1, lg', e1, f1, W1, hl1⟩ := q_lengthen h S hd W hn (show a' ≤ 9 by omega) (show b' ≤ 9 by omega) y
  have e : ∀ a b i, (spN p R F s0 s1 n a' b' a b i ∨ (i < pK p ∧ okL p s0 s1 a' b' y i ∧ a = a' + tkc p i 0 ∧ b = b' + tkc p i 1)) ↔ spN p R F s0 s1 n a' (b' + 1) a b i := by
    intro a b i
    constructor
    · rintro (⟨a0, b0, r, h1, h2⟩ | ⟨h1, ⟨h2, h3, h4⟩, rfl, rfl⟩)
      · exact ⟨a0, b0, r, by omega, h2⟩
      · obtain ⟨r, g1, g2, g3⟩ := (hyb i).mp h2
        exact ⟨a', b', r, by omega, (rd r).mp g2, g3, h1, rfl, rfl, h3, h4⟩
    · rintro ⟨a0, b0, r, h1, h2, h3, h4, h5, h6, h7, h8⟩
      by_cases ee : a0 = a' ∧ b0 = b'
      · obtain ⟨rfl, rfl⟩ := ee
        exact Or.inr ⟨h4, ⟨(hyb i).mpr ⟨r, (FWL_lt h2).1, (rd r).mpr h2, h3⟩, by omega, by omega⟩, h5, h6⟩
      · exact Or.inl ⟨a0, b0, r, by omega, h2, h3, h4, h5, h6, h7, h8⟩
  have ex : (∃ i, i < pK p ∧ okL p s0 s1 a' b' y i) → ∃ a b i, spN p R F s0 s1 n a' (b' + 1) a b i := fun ⟨i, h1, h2⟩ => ⟨_, _, i, (e _ _ i).mp (Or.inr ⟨h1, h2, rfl, rfl⟩)⟩
  refine ⟨y, M1, hy, e1, f.trans (f1.mono (fun a z => by unfold spS; omega)), lg', lg0, W1.iff (fun m a b i _ => ?_) (fun m i _ => ?_), g, ?_⟩
  · rw [← e a b i]
    constructor
    · rintro ((z | ⟨z1, z2⟩) | ⟨z1, z2, z3, z4⟩)
      · exact Or.inl z
      · exact Or.inr ⟨z1, Or.inl z2⟩
      · exact Or.inr ⟨z1, Or.inr ⟨z2, z3, z4⟩⟩
    · rintro (z | ⟨z1, z2 | ⟨z2, z3, z4⟩⟩)
      · exact Or.inl (Or.inl z)
      · exact Or.inl (Or.inr ⟨z1, z2⟩)
      · exact Or.inr ⟨z1, z2, z3, z4⟩
  · constructor
    · rintro ((z | ⟨z1, a, b, z2⟩) | ⟨z1, z2, z3⟩)
      · exact Or.inl z
      · exact Or.inr ⟨z1, a, b, (e a b i).mp (Or.inl z2)⟩
      · exact Or.inr ⟨z1, _, _, (e _ _ i).mp (Or.inr ⟨z2, z3, rfl, rfl⟩)⟩
    · rintro (z | ⟨z1, a, b, z2⟩)
      · exact Or.inl (Or.inl z)
      · rcases (e a b i).mpr z2 with z | ⟨z2, z3, -, -⟩
        · exact Or.inl (Or.inr ⟨z1, a, b, z⟩)
        · exact Or.inr ⟨z1, z2, z3⟩
  · rcases hl1 with ⟨z1, z2⟩ | ⟨z1, z2⟩
    · exact Or.inl ⟨z1, ex z2⟩
    · rcases hl with ⟨y1, a, b, i, y2⟩ | ⟨y1, y2⟩
      · exact Or.inl ⟨by omega, a, b, i, (e a b i).mp (Or.inl y2)⟩
      · refine Or.inr ⟨by omega, fun a b i zz => ?_⟩
        rcases (e a b i).mpr zz with z | ⟨g2, g3, -, -⟩
        · exact y2 a b i z
        · exact z2 ⟨i, g2, g3⟩
theorem q_spread (h : PlanAt M P p) (S : ScrT M B) (hd : P + 12 < B + 45 ∨ B + 64 < P) (V : StV M B (pK p) R) (x : Int32) {st0 st1 most : Nat} (h0 : st0 < 1000) (h1 : st1 < 1000) (hm : most < 1000) : ∃ M', f_X7_spread [.ref (B + 46), .ref P, .int x, .int (n32 st0), .int (n32 st1), .int (n32 most)] M = some (none, M') ∧ spI M B p R (bt x) (min st0 9) (min st1 9) (min most 24) M' := by
  have hk := h.O.kinds
  have key : wF f_X7_spread [.ref (B + 46), .ref P, .int x, .int (n32 st0), .int (n32 st1), .int (n32 most)] M (fun v M' => v = none ∧ spI M B p R (bt x) (min st0 9) (min st1 9) (min most 24) M') := by
    obtain ⟨M1, e1, f1, v1⟩ := q_fillI S.t49 (by decide) (n32 0)
    have S1 := S.fr f1
    obtain ⟨M2, e2, f2, v2⟩ := q_fillI S1.t50 (by decide) (n32 0)
    have S2 := S1.fr f2
    obtain ⟨M3, hM3⟩ : ∃ q, q = pI (pI (pI M2 (B + 46) 4 (n32 0)) (B + 48) 0 (n32 (min st0 9))) (B + 48) 1 (n32 (min st1 9)) := ⟨_, rfl⟩
    have f3 : Fr (spS B) M M3 := by
      rw [hM3]
      have ff : Fr (spS B) M M2 := (f1.mono (fun a z => by unfold spS; omega)).trans (f2.mono (fun a z => by unfold spS; omega))
      exact ((ff.pI 4 _ (by unfold spS; omega)).pI 0 _ (by unfold spS; omega)).pI 1 _ (by unfold spS; omega)
    have W3 : WV M3 B (min st0 9) (min st1 9) (spC p R (bt x) (min st0 9) (min st1 9) 0) (spL p R (bt x) (min st0 9) (min st1 9) 0) 0 := by
      rw [hM3]
      refine ⟨?_, vi_self _ _ _ _, by omega, by omega, fun n a b z1 z2 z3 i => ?_, fun n z1 i => ?_, ?_⟩
      · rw [vi_nk (by decide), vi_self]
      · rw [vi_ne (by omega), vi_ne (by omega), vi_ne (by omega), f2.vi (by omega), v1 _ (by omega), k_0, bt_zero]
        exact ⟨fun z => (by cases z), fun z => (by have := (FWL_lt z.2).2.2.2; have := z.1; omega)⟩
      · rw [vi_ne (by omega), vi_ne (by omega), vi_ne (by omega), v2 _ (by omega), k_0, bt_zero]
        exact ⟨fun z => (by cases z), fun ⟨z1, a, b, z2⟩ => (by have := (FWL_lt z2).2.2.2; omega)⟩
      · rw [vi_ne (by omega), vi_ne (by omega), vi_self]
    have S3 : ScrT M3 B := S.fr f3
    have h3 : PlanAt M3 P p := h.fr f3 (dj46 hd)
    unfold f_X7_spread b_X7_spread
    simp (maxSteps := 2000000) (disch := omega) only [w_eK, w_eI, w_eL, w_eR, w_eT, w_b1, w_b2, w_b0, w_b0L, w_gI, w_gL, w_gN, w_gR, w_aI, w_aL, w_aR, w_aLen, w_tern, w_and, w_or, w_vN, vI, vJ, vA, vS, w_cFv, w_cFs, w_toI, w_toL, w_toV, w_nO, w_nA, eZ, cNot, s_skip, s_brk, s_cnt, s_retV, s_seq, s_if, s_set1, s_setL, s_inc, s_putI, s_putZ, s_putL, s_putR, s_upI, s_AI, s_AL, s_AR, s_UA, s_exp, s_ret, s_retZ, s_scope, s_unBrk, s_sw, s_sup, sSetI, sSetR, sRetI, sRetL, f_of, argE_n, argE_i, argE_r, argE_l, argE_a, sto_0, sto_s, sto_n0, sto_ns, isL_i, isL_r, isL_n, isL_a, isL_l, isL_0, rcv_r, rcv_a, List.getElem?_cons_zero, List.getElem?_cons_succ, List.getElem?_nil, List.set_cons_zero, List.set_cons_succ, List.take_succ_cons, List.take_zero, List.take_nil, List.length_cons, List.length_nil, List.nil_append, List.cons_append, Nat.reduceAdd, Nat.reduceSub, Nat.reduceLT, Nat.reduceEqDiff, Nat.reduceLeDiff, Nat.zero_add, Nat.lt_irrefl, Nat.succ_sub_one, and_true, true_and, and_false, false_and, not_false_eq_true, not_true_eq_false, Bool.false_eq_true, if_true, if_false, reduceIte, decide_true, decide_false, decide_eq_true_eq, Option.some.injEq, and_self, Nat.add_one_sub_one, Nat.lt_add_one, Nat.zero_lt_succ, Value.int.injEq, Value.ref.injEq, Value.long.injEq, exists_eq_left', exists_eq_left, Sum.inl.injEq, Sum.inr.injEq, l_0, l_1, l_2, l_3, l_4, l_5, l_6, l_7, l_8, l_9, l_10, l_12, l_20, l_23, l_24, l_25, l_32, l_48, l_60, l_100, l_200, l_255, l_900, n32_add, n32_mul, n32_inc, neg1, neg2, l_11, l_50, l_54, l_58, l_59, l_649, S.t46, S.w2, wF_of e1, S1.t46, S1.w3, wF_of e2, S2.t46, tg_pI, tg_pL, tg_pR, vr_pI, vr_pL, vl_pI, vl_pR, vi_pL, vi_pR, mN_pI, mN_pL, mN_pR, mU_pI, mU_pL, mU_pR, S2.w1, S2.t48, n_iEq, n_iNe, n_iLt, n_iLe, n_iGt, n_iGe, n_zEq, n_zLt, n_zLe, n_zGt, n_zGe, n_inb, n32_clamp, mMin_n, nar, ← hM3]
    have loop : ∀ m1, spI M B p R (bt x) (min st0 9) (min st1 9) (min 1 (min most 24)) m1 → wS (sLoop (cAnd (b2 iLt (eI 7) (eI 6)) (b1 i2z (aI 20 (gR 8 3 (eR 0)) (eI 7)))) (sScope 8 (sSeq (sSetI 8 (eK (n32 0))) (sLoop (b2 iLe (eI 8) (aI 20 (gR 8 1 (eR 0)) (eK (n32 0)))) (sScope 9 (sSeq (sSetI 9 (eK (n32 0))) (sLoop (b2 iLe (eI 9) (aI 20 (gR 8 1 (eR 0)) (eK (n32 1)))) (sScope 10 (sSeq (sSetI 10 (aI 20 (gR 8 2 (eR 0)) (b2 (fun x y => x + y) (b2 (fun x y => x + y) (b2 (fun x y => x * y) (eI 7) (eK (n32 100))) (b2 (fun x y => x * y) (eI 8) (eK (n32 10)))) (eI 9)))) (sIf (b1 i2z (eI 10)) (sExp (toV (cFv 8 f_X7_lengthen (vI (vI (vI (vI (vA (vA vN (eR 0)) (eR 1)) (b2 (fun x y => x + y) (eI 7) (eK (n32 1)))) (eI 8)) (eI 9)) (toI (cFv 8 f_X7_followers (vI (vA (vA vN (eR 0)) (eR 1)) (eI 10)))))))) sSkip))) (sInc 9 (1))))) (sInc 8 (1))))) (sInc 7 (1))) [.ref (B + 46), .ref P, .int x, .int (n32 st0), .int (n32 st1), .int (n32 most), .int (n32 (min most 24)), .int (n32 1)] m1 (fun r e m2 => r = .inl 0 ∧ spI M B p R (bt x) (min st0 9) (min st1 9) (min most 24) m2) := by
      intro m1 hI1
      refine s_loop (fun k e m => ∃ n, n + k = 25 ∧ 1 ≤ n ∧ (n ≤ min most 24 ∨ n = 1) ∧ e = [.ref (B + 46), .ref P, .int x, .int (n32 st0), .int (n32 st1), .int (n32 most), .int (n32 (min most 24)), .int (n32 n)] ∧ spI M B p R (bt x) (min st0 9) (min st1 9) (min n (min most 24)) m) 24 ⟨1, by omega, by omega, by omega, rfl, hI1⟩ ?_
      rintro k e m ⟨n, hnk, hn1, hnb, rfl, hI⟩
      have fI := hI.1
      have S' := S.fr fI
      have g := h.fr fI (dj46 hd)
      have V' : StV m B (pK p) R := V.fr fI
      simp (disch := omega) only [w_and, w_b1, w_b2, w_eI, w_aI, w_gR, w_eR, List.getElem?_cons_zero, List.getElem?_cons_succ, n_iEq, n_iNe, n_iLt, n_iLe, n_iGt, n_iGe, n_zEq, n_zLt, n_zLe, n_zGt, n_zGe, n_inb, n32_clamp]
      by_cases c1 : n < min most 24
      · have emin : min n (min most 24) = n := by omega
        rw [emin] at hI
        rw [if_pos (decide_eq_true c1)]
        simp (disch := omega) only [S'.t46, S'.w3, S'.t50, true_and, n_iEq, n_iNe, n_iLt, n_iLe, n_iGt, n_iGe, n_zEq, n_zLt, n_zLe, n_zGt, n_zGe, n_inb, n32_clamp, decide_eq_true_eq]
        obtain ⟨-, lg, W, G⟩ := hI
        refine ⟨by omega, ?_⟩
        cases ez : i2z (vi m (B + 50) n)
        · rw [if_neg (by decide)]
          have none : ∀ a b i, ¬ FWL p R (bt x) (min st0 9) (min st1 9) n a b i := fun a b i z => by
            have : bt (vi m (B + 50) n) i = true := (W.la n (by omega) i).mpr ⟨Nat.le_refl _, a, b, z⟩
            have hz := (i2z_bt (vi m (B + 50) n)).mpr ⟨i, this⟩
            rw [ez] at hz; cases hz
          have nomore := FWL_no hn1 none
          refine ⟨fI, lg, W.iff (fun m a b i _ => ?_) (fun m i _ => ?_), ?_⟩
          · constructor
            · rintro ⟨z1, z2⟩; exact ⟨by omega, z2⟩
            · rintro ⟨z1, z2⟩
              refine ⟨Nat.le_of_not_lt fun z => nomore m (by omega) a b i z2, z2⟩
          · constructor
            · rintro ⟨z1, z2⟩; exact ⟨by omega, z2⟩
            · rintro ⟨z1, a, b, z2⟩
              refine ⟨Nat.le_of_not_lt fun z => nomore m (by omega) a b i z2, a, b, z2⟩
          · refine ⟨by have := G.1; omega, fun m h1 h2 a b i hf => ?_, G.2.2⟩
            by_cases hmn : m ≤ n
            · exact G.2.1 m h1 hmn a b i hf
            · exact nomore m (by omega) a b i hf
        · rw [if_pos rfl]
          have J0 : spJ M B p R (bt x) (min st0 9) (min st1 9) n 0 0 m := spJ_enter ⟨fI, lg, W, G⟩
          simp (maxSteps := 1000000) only [s_scope, s_seq, sSetI, s_set1, w_eK, isL_i, sto_0, sto_s, sto_n0, List.getElem?_cons_zero, List.getElem?_cons_succ, Nat.reduceSub, Nat.reduceAdd, Nat.reduceLT, and_false, not_false_eq_true, true_and, Bool.false_eq_true, Nat.add_one_sub_one]
          refine s_up (fun a' e m => e = [.ref (B + 46), .ref P, .int x, .int (n32 st0), .int (n32 st1), .int (n32 most), .int (n32 (min most 24)), .int (n32 n), .int (n32 a')] ∧ spJ M B p R (bt x) (min st0 9) (min st1 9) n a' 0 m) (min st0 9 + 1) ⟨rfl, J0⟩ ?_ ?_
          · rintro a' e m ha' ⟨rfl, J⟩
            have Sa := S.fr J.sc
            have JJ := J
            obtain ⟨-, lga, lga0, Wa, -⟩ := JJ
            simp (maxSteps := 1000000) (disch := omega) only [w_b2, w_eI, w_aI, w_gR, w_eR, w_eK, Sa.t46, Sa.w1, Sa.t48, n_iEq, n_iNe, n_iLt, n_iLe, n_iGt, n_iGe, n_zEq, n_zLt, n_zLe, n_zGt, n_zGe, n_inb, n32_clamp, Wa.v0, Wa.v1, show a' ≤ min st0 9 by omega, s_scope, s_seq, sSetI, s_set1, isL_i, sto_0, sto_s, sto_n0, List.getElem?_cons_zero, List.getElem?_cons_succ, Nat.reduceSub, Nat.reduceAdd, Nat.reduceLT, and_false, not_false_eq_true, true_and, Bool.false_eq_true, Nat.add_one_sub_one, decide_true, decide_eq_true_eq, and_self]
            refine s_up (fun b' e m => e = [.ref (B + 46), .ref P, .int x, .int (n32 st0), .int (n32 st1), .int (n32 most), .int (n32 (min most 24)), .int (n32 n), .int (n32 a'), .int (n32 b')] ∧ spJ M B p R (bt x) (min st0 9) (min st1 9) n a' b' m) (min st1 9 + 1) ⟨rfl, J⟩ ?_ ?_
            · rintro b' e m hb' ⟨rfl, J⟩
              have Sb := S.fr J.sc
              have gb := h.fr J.sc (dj46 hd)
              have Vb : StV m B (pK p) R := V.fr J.sc
              have rd := J.read (by omega) (show a' ≤ min st0 9 by omega) (show b' ≤ min st1 9 by omega)
              have JJ := J
              obtain ⟨-, lgb, lgb0, Wb, -⟩ := JJ
              simp (maxSteps := 1000000) (disch := omega) only [w_eK, w_eI, w_eL, w_eR, w_eT, w_b1, w_b2, w_b0, w_b0L, w_gI, w_gL, w_gN, w_gR, w_aI, w_aL, w_aR, w_aLen, w_tern, w_and, w_or, w_vN, vI, vJ, vA, vS, w_cFv, w_cFs, w_toI, w_toL, w_toV, w_nO, w_nA, eZ, cNot, s_skip, s_brk, s_cnt, s_retV, s_seq, s_if, s_set1, s_setL, s_inc, s_putI, s_putZ, s_putL, s_putR, s_upI, s_AI, s_AL, s_AR, s_UA, s_exp, s_ret, s_retZ, s_scope, s_unBrk, s_sw, s_sup, sSetI, sSetR, sRetI, sRetL, f_of, argE_n, argE_i, argE_r, argE_l, argE_a, sto_0, sto_s, sto_n0, sto_ns, isL_i, isL_r, isL_n, isL_a, isL_l, isL_0, rcv_r, rcv_a, List.getElem?_cons_zero, List.getElem?_cons_succ, List.getElem?_nil, List.set_cons_zero, List.set_cons_succ, List.take_succ_cons, List.take_zero, List.take_nil, List.length_cons, List.length_nil, List.nil_append, List.cons_append, Nat.reduceAdd, Nat.reduceSub, Nat.reduceLT, Nat.reduceEqDiff, Nat.reduceLeDiff, Nat.zero_add, Nat.lt_irrefl, Nat.succ_sub_one, and_true, true_and, and_false, false_and, not_false_eq_true, not_true_eq_false, Bool.false_eq_true, if_true, if_false, reduceIte, decide_true, decide_false, decide_eq_true_eq, Option.some.injEq, and_self, Nat.add_one_sub_one, Nat.lt_add_one, Nat.zero_lt_succ, Value.int.injEq, Value.ref.injEq, Value.long.injEq, exists_eq_left', exists_eq_left, Sum.inl.injEq, Sum.inr.injEq, l_0, l_1, l_2, l_3, l_4, l_5, l_6, l_7, l_8, l_9, l_10, l_12, l_20, l_23, l_24, l_25, l_32, l_48, l_60, l_100, l_200, l_255, l_900, n32_add, n32_mul, n32_inc, neg1, neg2, l_11, l_50, l_54, l_58, l_59, l_649, Sb.t46, Sb.w1, Sb.t48, n_iEq, n_iNe, n_iLt, n_iLe, n_iGt, n_iGe, n_zEq, n_zLt, n_zLe, n_zGt, n_zGe, n_inb, n32_clamp, Wb.v1, show b' ≤ min st1 9 by omega, Sb.w2, Sb.t49]
              refine ⟨by omega, ?_⟩
              cases ez : i2z (vi m (B + 49) (n * 100 + a' * 10 + b'))
              · simp only [w_eK, w_eI, w_eL, w_eR, w_eT, w_b1, w_b2, w_b0, w_b0L, w_gI, w_gL, w_gN, w_gR, w_aI, w_aL, w_aR, w_aLen, w_tern, w_and, w_or, w_vN, vI, vJ, vA, vS, w_cFv, w_cFs, w_toI, w_toL, w_toV, w_nO, w_nA, eZ, cNot, s_skip, s_brk, s_cnt, s_retV, s_seq, s_if, s_set1, s_setL, s_inc, s_putI, s_putZ, s_putL, s_putR, s_upI, s_AI, s_AL, s_AR, s_UA, s_exp, s_ret, s_retZ, s_scope, s_unBrk, s_sw, s_sup, sSetI, sSetR, sRetI, sRetL, f_of, argE_n, argE_i, argE_r, argE_l, argE_a, sto_0, sto_s, sto_n0, sto_ns, isL_i, isL_r, isL_n, isL_a, isL_l, isL_0, rcv_r, rcv_a, List.getElem?_cons_zero, List.getElem?_cons_succ, List.getElem?_nil, List.set_cons_zero, List.set_cons_succ, List.take_succ_cons, List.take_zero, List.take_nil, List.length_cons, List.length_nil, List.nil_append, List.cons_append, Nat.reduceAdd, Nat.reduceSub, Nat.reduceLT, Nat.reduceEqDiff, Nat.reduceLeDiff, Nat.zero_add, Nat.lt_irrefl, Nat.succ_sub_one, and_true, true_and, and_false, false_and, not_false_eq_true, not_true_eq_false, Bool.false_eq_true, if_true, if_false, reduceIte, decide_true, decide_false, decide_eq_true_eq, Option.some.injEq, and_self, Nat.add_one_sub_one, Nat.lt_add_one, Nat.zero_lt_succ, Value.int.injEq, Value.ref.injEq, Value.long.injEq, exists_eq_left', exists_eq_left, Sum.inl.injEq, Sum.inr.injEq, n32_inc]
                exact J.skip (fun r z => by have hz := (i2z_bt _).mpr ⟨r, (rd r).mpr z⟩; rw [ez] at hz; cases hz)
              · obtain ⟨y, M1, y1, y2, y3⟩ := spJ.len gb Sb hd Vb J (by omega) (show a' ≤ min st0 9 by omega) (show b' ≤ min st1 9 by omega)
                simp only [w_eK, w_eI, w_eL, w_eR, w_eT, w_b1, w_b2, w_b0, w_b0L, w_gI, w_gL, w_gN, w_gR, w_aI, w_aL, w_aR, w_aLen, w_tern, w_and, w_or, w_vN, vI, vJ, vA, vS, w_cFv, w_cFs, w_toI, w_toL, w_toV, w_nO, w_nA, eZ, cNot, s_skip, s_brk, s_cnt, s_retV, s_seq, s_if, s_set1, s_setL, s_inc, s_putI, s_putZ, s_putL, s_putR, s_upI, s_AI, s_AL, s_AR, s_UA, s_exp, s_ret, s_retZ, s_scope, s_unBrk, s_sw, s_sup, sSetI, sSetR, sRetI, sRetL, f_of, argE_n, argE_i, argE_r, argE_l, argE_a, sto_0, sto_s, sto_n0, sto_ns, isL_i, isL_r, isL_n, isL_a, isL_l, isL_0, rcv_r, rcv_a, List.getElem?_cons_zero, List.getElem?_cons_succ, List.getElem?_nil, List.set_cons_zero, List.set_cons_succ, List.take_succ_cons, List.take_zero, List.take_nil, List.length_cons, List.length_nil, List.nil_append, List.cons_append, Nat.reduceAdd, Nat.reduceSub, Nat.reduceLT, Nat.reduceEqDiff, Nat.reduceLeDiff, Nat.zero_add, Nat.lt_irrefl, Nat.succ_sub_one, and_true, true_and, and_false, false_and, not_false_eq_true, not_true_eq_false, Bool.false_eq_true, if_true, if_false, reduceIte, decide_true, decide_false, decide_eq_true_eq, Option.some.injEq, and_self, Nat.add_one_sub_one, Nat.lt_add_one, Nat.zero_lt_succ, Value.int.injEq, Value.ref.injEq, Value.long.injEq, exists_eq_left', exists_eq_left, Sum.inl.injEq, Sum.inr.injEq, l_0, l_1, l_2, l_3, l_4, l_5, l_6, l_7, l_8, l_9, l_10, l_12, l_20, l_23, l_24, l_25, l_32, l_48, l_60, l_100, l_200, l_255, l_900, n32_add, n32_mul, n32_inc, neg1, neg2, l_11, l_50, l_54, l_58, l_59, l_649, Sb.t46, wF_of y1, wF_of y2, n32_inc]
                exact y3
            · rintro e m ⟨rfl, J⟩
              have Sb := S.fr J.sc
              have JJ := J
              obtain ⟨-, lgb, lgb0, Wb, -⟩ := JJ
              simp (maxSteps := 1000000) (disch := omega) only [w_eK, w_eI, w_eL, w_eR, w_eT, w_b1, w_b2, w_b0, w_b0L, w_gI, w_gL, w_gN, w_gR, w_aI, w_aL, w_aR, w_aLen, w_tern, w_and, w_or, w_vN, vI, vJ, vA, vS, w_cFv, w_cFs, w_toI, w_toL, w_toV, w_nO, w_nA, eZ, cNot, s_skip, s_brk, s_cnt, s_retV, s_seq, s_if, s_set1, s_setL, s_inc, s_putI, s_putZ, s_putL, s_putR, s_upI, s_AI, s_AL, s_AR, s_UA, s_exp, s_ret, s_retZ, s_scope, s_unBrk, s_sw, s_sup, sSetI, sSetR, sRetI, sRetL, f_of, argE_n, argE_i, argE_r, argE_l, argE_a, sto_0, sto_s, sto_n0, sto_ns, isL_i, isL_r, isL_n, isL_a, isL_l, isL_0, rcv_r, rcv_a, List.getElem?_cons_zero, List.getElem?_cons_succ, List.getElem?_nil, List.set_cons_zero, List.set_cons_succ, List.take_succ_cons, List.take_zero, List.take_nil, List.length_cons, List.length_nil, List.nil_append, List.cons_append, Nat.reduceAdd, Nat.reduceSub, Nat.reduceLT, Nat.reduceEqDiff, Nat.reduceLeDiff, Nat.zero_add, Nat.lt_irrefl, Nat.succ_sub_one, and_true, true_and, and_false, false_and, not_false_eq_true, not_true_eq_false, Bool.false_eq_true, if_true, if_false, reduceIte, decide_true, decide_false, decide_eq_true_eq, Option.some.injEq, and_self, Nat.add_one_sub_one, Nat.lt_add_one, Nat.zero_lt_succ, Value.int.injEq, Value.ref.injEq, Value.long.injEq, exists_eq_left', exists_eq_left, Sum.inl.injEq, Sum.inr.injEq, l_0, l_1, l_2, l_3, l_4, l_5, l_6, l_7, l_8, l_9, l_10, l_12, l_20, l_23, l_24, l_25, l_32, l_48, l_60, l_100, l_200, l_255, l_900, n32_add, n32_mul, n32_inc, neg1, neg2, l_11, l_50, l_54, l_58, l_59, l_649, Sb.t46, Sb.w1, Sb.t48, n_iEq, n_iNe, n_iLt, n_iLe, n_iGt, n_iGe, n_zEq, n_zLt, n_zLe, n_zGt, n_zGe, n_inb, n32_clamp, Wb.v1, show ¬ min st1 9 + 1 ≤ min st1 9 by omega, n32_inc]
              exact J.iff (fun a b i => spN_row)
          · rintro e m ⟨rfl, J⟩
            have Sa := S.fr J.sc
            have L := spJ_leave hn1 J
            obtain ⟨-, lga, lga0, Wa, -⟩ := J
            simp (disch := omega) only [w_eK, w_eI, w_eL, w_eR, w_eT, w_b1, w_b2, w_b0, w_b0L, w_gI, w_gL, w_gN, w_gR, w_aI, w_aL, w_aR, w_aLen, w_tern, w_and, w_or, w_vN, vI, vJ, vA, vS, w_cFv, w_cFs, w_toI, w_toL, w_toV, w_nO, w_nA, eZ, cNot, s_skip, s_brk, s_cnt, s_retV, s_seq, s_if, s_set1, s_setL, s_inc, s_putI, s_putZ, s_putL, s_putR, s_upI, s_AI, s_AL, s_AR, s_UA, s_exp, s_ret, s_retZ, s_scope, s_unBrk, s_sw, s_sup, sSetI, sSetR, sRetI, sRetL, f_of, argE_n, argE_i, argE_r, argE_l, argE_a, sto_0, sto_s, sto_n0, sto_ns, isL_i, isL_r, isL_n, isL_a, isL_l, isL_0, rcv_r, rcv_a, List.getElem?_cons_zero, List.getElem?_cons_succ, List.getElem?_nil, List.set_cons_zero, List.set_cons_succ, List.take_succ_cons, List.take_zero, List.take_nil, List.length_cons, List.length_nil, List.nil_append, List.cons_append, Nat.reduceAdd, Nat.reduceSub, Nat.reduceLT, Nat.reduceEqDiff, Nat.reduceLeDiff, Nat.zero_add, Nat.lt_irrefl, Nat.succ_sub_one, and_true, true_and, and_false, false_and, not_false_eq_true, not_true_eq_false, Bool.false_eq_true, if_true, if_false, reduceIte, decide_true, decide_false, decide_eq_true_eq, Option.some.injEq, and_self, Nat.add_one_sub_one, Nat.lt_add_one, Nat.zero_lt_succ, Value.int.injEq, Value.ref.injEq, Value.long.injEq, exists_eq_left', exists_eq_left, Sum.inl.injEq, Sum.inr.injEq, Sa.t46, Sa.w1, Sa.t48, n_iEq, n_iNe, n_iLt, n_iLe, n_iGt, n_iGe, n_zEq, n_zLt, n_zLe, n_zGt, n_zGe, n_inb, n32_clamp, Wa.v0, show ¬ min st0 9 + 1 ≤ min st0 9 by omega, n32_inc]
            refine ⟨k - 1, by omega, n + 1, by omega, by omega, by omega, rfl, ?_⟩
            rw [show min (n + 1) (min most 24) = n + 1 by omega]
            exact L
      · rw [if_neg (by simpa using c1)]
        have emin : min n (min most 24) = min most 24 := by omega
        rw [emin] at hI
        rw [if_neg (by decide)]
        exact ⟨trivial, hI⟩
    by_cases c0 : 0 < min most 24
    · obtain ⟨M4, lg4, e4, f4, W4, hl4⟩ := q_lengthen h3 S3 hd W3 (show 1 ≤ 24 by decide) (show 0 ≤ 9 by decide) (show 0 ≤ 9 by decide) x
      have one : ∀ a b i, (i < pK p ∧ okL p (min st0 9) (min st1 9) 0 0 x i ∧ a = 0 + tkc p i 0 ∧ b = 0 + tkc p i 1) ↔ FWL p R (bt x) (min st0 9) (min st1 9) 1 a b i := by
        intro a b i
        rw [FWL_1]
        constructor
        · rintro ⟨z1, ⟨z2, z3, z4⟩, rfl, rfl⟩
          exact ⟨z1, z2, by omega, by omega, z3, z4⟩
        · rintro ⟨z1, z2, rfl, rfl, z3, z4⟩
          exact ⟨z1, ⟨z2, by omega, by omega⟩, by omega, by omega⟩
      have I4 : spI M B p R (bt x) (min st0 9) (min st1 9) (min 1 (min most 24)) M4 := by
        rw [show min 1 (min most 24) = 1 by omega]
        refine ⟨f3.trans (f4.mono (fun a z => by unfold spS; omega)), lg4, W4.iff (fun m a b i _ => ?_) (fun m i _ => ?_), ?_⟩
        · constructor
          · rintro (⟨z1, z2⟩ | ⟨z1, z2⟩)
            · have := (FWL_lt z2).2.2.2; omega
            · subst z1; exact ⟨Nat.le_refl _, (one a b i).mp z2⟩
          · rintro ⟨z1, z2⟩
            have := (FWL_lt z2).2.2.2
            have : m = 1 := by omega
            subst this
            exact Or.inr ⟨rfl, (one a b i).mpr z2⟩
        · constructor
          · rintro (⟨z1, a, b, z2⟩ | ⟨z1, z2, z3⟩)
            · have := (FWL_lt z2).2.2.2; omega
            · subst z1; exact ⟨Nat.le_refl _, _, _, (one _ _ i).mp ⟨z2, z3, rfl, rfl⟩⟩
          · rintro ⟨z1, a, b, z2⟩
            have := (FWL_lt z2).2.2.2
            have : m = 1 := by omega
            subst this
            have := (one a b i).mpr z2
            exact Or.inr ⟨rfl, this.1, this.2.1⟩
        · rcases hl4 with ⟨z1, i, z2, z3⟩ | ⟨z1, z2⟩
          · subst z1
            exact ⟨Nat.le_refl _, fun m y1 y2 => by omega, fun _ => ⟨_, _, i, (one _ _ i).mp ⟨z2, z3, rfl, rfl⟩⟩⟩
          · subst z1
            refine ⟨by omega, fun m y1 y2 a b i hf => ?_, fun y => by omega⟩
            have : m = 1 := by omega
            subst this
            have := (one a b i).mpr hf
            exact z2 ⟨i, this.1, this.2.1⟩
      simp (maxSteps := 1000000) (disch := omega) only [c0, w_eK, w_eI, w_eL, w_eR, w_eT, w_b1, w_b2, w_b0, w_b0L, w_gI, w_gL, w_gN, w_gR, w_aI, w_aL, w_aR, w_aLen, w_tern, w_and, w_or, w_vN, vI, vJ, vA, vS, w_cFv, w_cFs, w_toI, w_toL, w_toV, w_nO, w_nA, eZ, cNot, s_skip, s_brk, s_cnt, s_retV, s_seq, s_if, s_set1, s_setL, s_inc, s_putI, s_putZ, s_putL, s_putR, s_upI, s_AI, s_AL, s_AR, s_UA, s_exp, s_ret, s_retZ, s_scope, s_unBrk, s_sw, s_sup, sSetI, sSetR, sRetI, sRetL, f_of, argE_n, argE_i, argE_r, argE_l, argE_a, sto_0, sto_s, sto_n0, sto_ns, isL_i, isL_r, isL_n, isL_a, isL_l, isL_0, rcv_r, rcv_a, List.getElem?_cons_zero, List.getElem?_cons_succ, List.getElem?_nil, List.set_cons_zero, List.set_cons_succ, List.take_succ_cons, List.take_zero, List.take_nil, List.length_cons, List.length_nil, List.nil_append, List.cons_append, Nat.reduceAdd, Nat.reduceSub, Nat.reduceLT, Nat.reduceEqDiff, Nat.reduceLeDiff, Nat.zero_add, Nat.lt_irrefl, Nat.succ_sub_one, and_true, true_and, and_false, false_and, not_false_eq_true, not_true_eq_false, Bool.false_eq_true, if_true, if_false, reduceIte, decide_true, decide_false, decide_eq_true_eq, Option.some.injEq, and_self, Nat.add_one_sub_one, Nat.lt_add_one, Nat.zero_lt_succ, Value.int.injEq, Value.ref.injEq, Value.long.injEq, exists_eq_left', exists_eq_left, Sum.inl.injEq, Sum.inr.injEq, S3.t46, wF_of e4]
      refine (loop M4 I4).mono ?_
      rintro r e m2 ⟨rfl, hf⟩
      simp only [w_eK, w_eI, w_eL, w_eR, w_eT, w_b1, w_b2, w_b0, w_b0L, w_gI, w_gL, w_gN, w_gR, w_aI, w_aL, w_aR, w_aLen, w_tern, w_and, w_or, w_vN, vI, vJ, vA, vS, w_cFv, w_cFs, w_toI, w_toL, w_toV, w_nO, w_nA, eZ, cNot, s_skip, s_brk, s_cnt, s_retV, s_seq, s_if, s_set1, s_setL, s_inc, s_putI, s_putZ, s_putL, s_putR, s_upI, s_AI, s_AL, s_AR, s_UA, s_exp, s_ret, s_retZ, s_scope, s_unBrk, s_sw, s_sup, sSetI, sSetR, sRetI, sRetL, f_of, argE_n, argE_i, argE_r, argE_l, argE_a, sto_0, sto_s, sto_n0, sto_ns, isL_i, isL_r, isL_n, isL_a, isL_l, isL_0, rcv_r, rcv_a, List.getElem?_cons_zero, List.getElem?_cons_succ, List.getElem?_nil, List.set_cons_zero, List.set_cons_succ, List.take_succ_cons, List.take_zero, List.take_nil, List.length_cons, List.length_nil, List.nil_append, List.cons_append, Nat.reduceAdd, Nat.reduceSub, Nat.reduceLT, Nat.reduceEqDiff, Nat.reduceLeDiff, Nat.zero_add, Nat.lt_irrefl, Nat.succ_sub_one, and_true, true_and, and_false, false_and, not_false_eq_true, not_true_eq_false, Bool.false_eq_true, if_true, if_false, reduceIte, decide_true, decide_false, decide_eq_true_eq, Option.some.injEq, and_self, Nat.add_one_sub_one, Nat.lt_add_one, Nat.zero_lt_succ, Value.int.injEq, Value.ref.injEq, Value.long.injEq, exists_eq_left', exists_eq_left, Sum.inl.injEq, Sum.inr.injEq]
      exact hf
    · have I3 : spI M B p R (bt x) (min st0 9) (min st1 9) (min 1 (min most 24)) M3 := by
        rw [show min 1 (min most 24) = 0 by omega]
        exact ⟨f3, 0, W3, Nat.le_refl _, fun m y1 y2 => by omega, fun y => by omega⟩
      simp (maxSteps := 1000000) (disch := omega) only [c0, w_eK, w_eI, w_eL, w_eR, w_eT, w_b1, w_b2, w_b0, w_b0L, w_gI, w_gL, w_gN, w_gR, w_aI, w_aL, w_aR, w_aLen, w_tern, w_and, w_or, w_vN, vI, vJ, vA, vS, w_cFv, w_cFs, w_toI, w_toL, w_toV, w_nO, w_nA, eZ, cNot, s_skip, s_brk, s_cnt, s_retV, s_seq, s_if, s_set1, s_setL, s_inc, s_putI, s_putZ, s_putL, s_putR, s_upI, s_AI, s_AL, s_AR, s_UA, s_exp, s_ret, s_retZ, s_scope, s_unBrk, s_sw, s_sup, sSetI, sSetR, sRetI, sRetL, f_of, argE_n, argE_i, argE_r, argE_l, argE_a, sto_0, sto_s, sto_n0, sto_ns, isL_i, isL_r, isL_n, isL_a, isL_l, isL_0, rcv_r, rcv_a, List.getElem?_cons_zero, List.getElem?_cons_succ, List.getElem?_nil, List.set_cons_zero, List.set_cons_succ, List.take_succ_cons, List.take_zero, List.take_nil, List.length_cons, List.length_nil, List.nil_append, List.cons_append, Nat.reduceAdd, Nat.reduceSub, Nat.reduceLT, Nat.reduceEqDiff, Nat.reduceLeDiff, Nat.zero_add, Nat.lt_irrefl, Nat.succ_sub_one, and_true, true_and, and_false, false_and, not_false_eq_true, not_true_eq_false, Bool.false_eq_true, if_true, if_false, reduceIte, decide_true, decide_false, decide_eq_true_eq, Option.some.injEq, and_self, Nat.add_one_sub_one, Nat.lt_add_one, Nat.zero_lt_succ, Value.int.injEq, Value.ref.injEq, Value.long.injEq, exists_eq_left', exists_eq_left, Sum.inl.injEq, Sum.inr.injEq]
      refine (loop M3 I3).mono ?_
      rintro r e m2 ⟨rfl, hf⟩
      simp only [w_eK, w_eI, w_eL, w_eR, w_eT, w_b1, w_b2, w_b0, w_b0L, w_gI, w_gL, w_gN, w_gR, w_aI, w_aL, w_aR, w_aLen, w_tern, w_and, w_or, w_vN, vI, vJ, vA, vS, w_cFv, w_cFs, w_toI, w_toL, w_toV, w_nO, w_nA, eZ, cNot, s_skip, s_brk, s_cnt, s_retV, s_seq, s_if, s_set1, s_setL, s_inc, s_putI, s_putZ, s_putL, s_putR, s_upI, s_AI, s_AL, s_AR, s_UA, s_exp, s_ret, s_retZ, s_scope, s_unBrk, s_sw, s_sup, sSetI, sSetR, sRetI, sRetL, f_of, argE_n, argE_i, argE_r, argE_l, argE_a, sto_0, sto_s, sto_n0, sto_ns, isL_i, isL_r, isL_n, isL_a, isL_l, isL_0, rcv_r, rcv_a, List.getElem?_cons_zero, List.getElem?_cons_succ, List.getElem?_nil, List.set_cons_zero, List.set_cons_succ, List.take_succ_cons, List.take_zero, List.take_nil, List.length_cons, List.length_nil, List.nil_append, List.cons_append, Nat.reduceAdd, Nat.reduceSub, Nat.reduceLT, Nat.reduceEqDiff, Nat.reduceLeDiff, Nat.zero_add, Nat.lt_irrefl, Nat.succ_sub_one, and_true, true_and, and_false, false_and, not_false_eq_true, not_true_eq_false, Bool.false_eq_true, if_true, if_false, reduceIte, decide_true, decide_false, decide_eq_true_eq, Option.some.injEq, and_self, Nat.add_one_sub_one, Nat.lt_add_one, Nat.zero_lt_succ, Value.int.injEq, Value.ref.injEq, Value.long.injEq, exists_eq_left', exists_eq_left, Sum.inl.injEq, Sum.inr.injEq]
      exact hf
  obtain ⟨v, m, h1, rfl, h2⟩ := key
  exact ⟨m, h1, h2⟩
end
