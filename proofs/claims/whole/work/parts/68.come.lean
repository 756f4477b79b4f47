/-! HOW THE RIGHT MAY COME THERE: the reference's table -/
theorem dv10 : ∀ k : Fin 100, n32 k / n32 10 = n32 ((k : Nat) / 10) := by decide +kernel
theorem rm10 : ∀ k : Fin 100, remI (n32 k) (n32 10) = n32 ((k : Nat) % 10) := by decide +kernel
theorem i2z_0 : i2z (n32 0) = false := by decide
theorem i2z_1 : i2z (n32 1) = true := by decide
def Cm (p : Pl) (lo : Lo) (j n f u v : Nat) : Prop := (n = 0 ∧ fo f = lastO lo 1 j ∧ u = 0 ∧ v = 0) ∨ (1 ≤ n ∧ FWL p (fol p 1) (folO p 1 (lastO lo 1 j)) (lS lo 1 0) (lS lo 1 1) n u v f)
def stp (p : Pl) (lo : Lo) (f u v r a b : Nat) : Prop := r < pK p ∧ folO p 1 (fo f) r = true ∧ a = u + tkc p r 0 ∧ b = v + tkc p r 1 ∧ a ≤ lS lo 1 0 ∧ b ≤ lS lo 1 1
theorem fo_lt {p : Pl} (O : PlOK p) {f : Nat} (h : f < pK p) : fo f = some f := by
  have := O.kinds
  unfold fo
  rw [if_neg (by omega)]
theorem Cm_ok {p : Pl} {lo : Lo} (O : PlOK p) (L : LoOK (pK p) lo) {j n f u v : Nat} (h : Cm p lo j n f u v) (hf : f < 9) : (f < pK p ∨ f = 8) ∧ u ≤ lS lo 1 0 ∧ v ≤ lS lo 1 1 := by
  have hK := O.kinds
  rcases h with ⟨-, h1, rfl, rfl⟩ | ⟨-, h⟩
  · refine ⟨?_, Nat.zero_le _, Nat.zero_le _⟩
    by_cases e : f = 8
    · exact Or.inr e
    · left
      unfold fo at h1
      rw [if_neg e] at h1
      exact lastO_lt L (by decide) h1.symm
  · have := FWL_lt h
    exact ⟨Or.inl this.1, this.2.1, this.2.2.1⟩
theorem Cm_s {p : Pl} {lo : Lo} (O : PlOK p) (L : LoOK (pK p) lo) {j n r a b : Nat} : Cm p lo j (n + 1) r a b ↔ ∃ f u v, f < 9 ∧ Cm p lo j n f u v ∧ stp p lo f u v r a b := by
  have hK := O.kinds
  constructor
  · rintro (⟨z, -⟩ | ⟨-, h⟩)
    · omega
    · by_cases e : n = 0
      · subst e
        obtain ⟨h1, h2, h3, h4, h5, h6⟩ := FWL_1.mp h
        have ol : ∀ q, lastO lo 1 j = some q → q < 8 := fun q e => by have := lastO_lt L (by decide) e; omega
        refine ⟨stO (lastO lo 1 j), 0, 0, stO_lt ol, Or.inl ⟨rfl, fo_stO ol, rfl, rfl⟩, h1, ?_, by omega, by omega, h5, h6⟩
        rw [fo_stO ol]; exact h2
      · obtain ⟨a0, b0, f, h1, h2, h3, h4, h5, h6, h7⟩ := (FWL_s (by omega)).mp h
        have hf := (FWL_lt h1).1
        refine ⟨f, a0, b0, by omega, Or.inr ⟨by omega, h1⟩, h3, ?_, h4, h5, h6, h7⟩
        rw [fo_lt O hf]; exact h2
  · rintro ⟨f, u, v, hf, h1, h2, h3, h4, h5, h6, h7⟩
    refine Or.inr ⟨by omega, ?_⟩
    rcases h1 with ⟨rfl, g1, rfl, rfl⟩ | ⟨g1, g2⟩
    · rw [g1] at h3
      exact FWL_1.mpr ⟨h2, h3, by omega, by omega, h6, h7⟩
    · have hfk := (FWL_lt g2).1
      rw [fo_lt O hfk] at h3
      exact (FWL_s g1).mpr ⟨u, v, f, g2, h3, h2, h4, h5, h6, h7⟩
/-- the table: which cells are on -/
def CT (M : qM) (X : Nat) (P : Nat → Nat → Nat → Nat → Prop) : Prop := ∀ n r a b, n ≤ 24 → r < 9 → a ≤ 9 → b ≤ 9 → (i2z (vi M (X + 7) (n * 900 + r * 100 + a * 10 + b)) = true ↔ P n r a b)
theorem CT.iff {M : qM} {X : Nat} {P Q : Nat → Nat → Nat → Nat → Prop} (h : CT M X P) (e : ∀ n r a b, n ≤ 24 → r < 9 → a ≤ 9 → b ≤ 9 → (P n r a b ↔ Q n r a b)) : CT M X Q := fun n r a b h1 h2 h3 h4 => (h n r a b h1 h2 h3 h4).trans (e n r a b h1 h2 h3 h4)
theorem ct_ix {n r a b n2 r2 a2 b2 : Nat} (h2 : r < 9) (h3 : a ≤ 9) (h4 : b ≤ 9) (g2 : r2 < 9) (g3 : a2 ≤ 9) (g4 : b2 ≤ 9) (e : n2 * 900 + r2 * 100 + a2 * 10 + b2 = n * 900 + r * 100 + a * 10 + b) : n2 = n ∧ r2 = r ∧ a2 = a ∧ b2 = b := by omega
theorem CT.put {M : qM} {X : Nat} {P : Nat → Nat → Nat → Nat → Prop} (h : CT M X P) {n r a b : Nat} (h2 : r < 9) (h3 : a ≤ 9) (h4 : b ≤ 9) {x : Int32} (hx : i2z x = true) : CT (pI M (X + 7) (n * 900 + r * 100 + a * 10 + b) x) X (fun n' r' a' b' => P n' r' a' b' ∨ (n' = n ∧ r' = r ∧ a' = a ∧ b' = b)) := by
  intro n2 r2 a2 b2 g1 g2 g3 g4
  rw [vi_pI]
  by_cases e : n2 * 900 + r2 * 100 + a2 * 10 + b2 = n * 900 + r * 100 + a * 10 + b
  · rw [if_pos ⟨rfl, e⟩, hx]
    exact ⟨fun _ => Or.inr (ct_ix h2 h3 h4 g2 g3 g4 e), fun _ => rfl⟩
  · rw [if_neg (fun z => e z.2), h n2 r2 a2 b2 g1 g2 g3 g4]
    exact ⟨Or.inl, fun z => z.elim id (fun ⟨e1, e2, e3, e4⟩ => absurd (by rw [e1, e2, e3, e4]) e)⟩
section
variable {M : qM} {X C : Nat} {p : Pl} {lo : Lo} {A : Ab}
theorem MC.seven {M' : qM} (h : MC M X C p lo) (f : Fr (fun a => a = X + 7) M M') : MC M' X C p lo := h.fr f (fun a e => by subst e; have := h.d; exact ⟨by omega, by omega⟩)
theorem m_mayF (h : MC M X C p lo) {s f r : Nat} (hs : s < 2) (hr : r < pK p) (hf : f < pK p ∨ f = 8) : f_X9_mayFollow [.ref C, .int (n32 s), .int (n32 f), .int (n32 r)] M = some (some (.int (b2i (folO p s (fo f) r))), M) := by
  have hK := h.O.kinds
  have := m_mayFollow h.D h.V h.O hs hr (o := fo f) (fun q hq => by
    unfold fo at hq
    split at hq
    · cases hq
    · cases hq; omega)
  have e : oM (fo f) = n32 f := by
    unfold fo
    split
    · rename_i e; rw [e]; rfl
    · rfl
  rw [e] at this
  exact this
theorem m_comes (h : MC M X C p lo) {n f u v : Nat} (hn : n < 24) (hf : f < pK p ∨ f = 8) (hu : u ≤ lS lo 1 0) (hv : v ≤ lS lo 1 1) {P : Nat → Nat → Nat → Nat → Prop} (T : CT M X P) : ∃ M', f_X10_comes [.ref X, .int (n32 n), .int (n32 f), .int (n32 u), .int (n32 v)] M = some (none, M') ∧ Fr (fun a => a = X + 7) M M' ∧ CT M' X (fun n' r a b => P n' r a b ∨ (n' = n + 1 ∧ stp p lo f u v r a b)) := by
  have hK := h.O.kinds
  have c0 := h.L.st 1 0 (by decide) (by decide)
  have c1 := h.L.st 1 1 (by decide) (by decide)
  have key : hF f_X10_comes [.ref X, .int (n32 n), .int (n32 f), .int (n32 u), .int (n32 v)] M (fun w M' => w = none ∧ Fr (fun a => a = X + 7) M M' ∧ CT M' X (fun n' r a b => P n' r a b ∨ (n' = n + 1 ∧ stp p lo f u v r a b))) () := by
    delta f_X10_comes b_X10_comes
    simp only [hR_d, hT_d, hI_t, hI_f, hVI_s, hVL_s, hVR_s, hVT_s, hVV_s, hO_s, hB_0, hB_1, hB_2, hB_r, hU_0, hU_1, hU_2, hU_r, hX_r, hL_0, hL_1, hL_2, hL_r, hC_s, h_k0, h_k1, h_k2, h_k3, h_k4, h_k5, h_k6, h_k7, h_k8, h_k9, h_k10, h_k11, h_k12, h_k14, h_k16, h_k18, h_k20, h_k23, h_k24, h_k25, h_k32, h_k44, h_k48, h_k50, h_k54, h_k57, h_k58, h_k59, h_k60, h_k63, h_k97, h_k100, h_k122, h_k177, h_k255, h_k400, h_k450, h_k625, h_k649, h_k708, h_k800, h_k900, h_k2500, h_k22500, h_k45000, h_kn1, h_kn2, h_kJ, h_kU, h_eI, h_eL, h_eR, h_eT, h_b1, h_eZ, h_not, h_b2, h_b0, h_b0L, h_gI, h_gL, h_gN, h_gR, h_aI, h_aL, h_aR, h_aLen, h_tern, h_and, h_or, h_vN, h_vI, h_vJ, h_vA, h_cFv, h_cFs, h_toI, h_toL, h_toV, h_nO, h_nA, g_skip, g_brk, g_cnt, g_retV, g_seq, g_if, g_setI, g_setR, g_setL, g_inc, g_putI, g_putZ, g_putL, g_putR, g_upI, g_AI, g_AL, g_AR, g_UA, g_exp, g_retI, g_retL, g_retZ, g_scope, g_unBrk, g_sup, h_fn, argE_n, argE_i, argE_r, argE_l, argE_a, sto_0, sto_s, sto_n0, sto_ns, isL_i, isL_r, isL_n, isL_a, isL_l, isL_0, rcv_r, rcv_a, List.getElem?_cons_zero, List.getElem?_cons_succ, List.getElem?_nil, List.set_cons_zero, List.set_cons_succ, List.take_succ_cons, List.take_zero, List.take_nil, List.length_cons, List.length_nil, List.nil_append, List.cons_append, Nat.reduceAdd, Nat.reduceSub, Nat.reduceLT, Nat.reduceEqDiff, Nat.reduceLeDiff, Nat.zero_add, Nat.lt_irrefl, Nat.succ_sub_one, and_true, true_and, and_false, false_and, not_false_eq_true, not_true_eq_false, Bool.false_eq_true, Bool.not_true, Bool.not_false, Bool.not_eq_true', Bool.true_eq_false, decide_true, decide_false, decide_eq_true_eq, decide_eq_false_iff_not, Option.some.injEq, and_self, Nat.add_one_sub_one, Nat.lt_add_one, Nat.zero_lt_succ, Value.int.injEq, Value.ref.injEq, Value.long.injEq, exists_eq_left', exists_eq_left, Sum.inl.injEq, Sum.inr.injEq, i2z_b2i, n32_add, n32_mul, n32_inc]
    refine h_up (fun j e m => e = [.ref X, .int (n32 n), .int (n32 f), .int (n32 u), .int (n32 v), .int (n32 j)] ∧ Fr (fun a => a = X + 7) M m ∧ CT m X (fun n' r a b => P n' r a b ∨ (n' = n + 1 ∧ r < j ∧ stp p lo f u v r a b))) (pK p) ⟨rfl, Fr.refl _ _, T.iff (fun n' r a b _ _ _ _ => ⟨Or.inl, fun z => z.elim id (fun z => by omega)⟩)⟩ ?_ ?_
    · rintro j e m hj ⟨rfl, F, J⟩
      have g := h.seven F
      have t0 := tkc_le h.O hj 0
      have t1 := tkc_le h.O hj 1
      have skip : ¬ (folO p 1 (fo f) j = true ∧ u + tkc p j 0 ≤ lS lo 1 0 ∧ v + tkc p j 1 ≤ lS lo 1 1) → CT m X (fun n' r a b => P n' r a b ∨ (n' = n + 1 ∧ r < j + 1 ∧ stp p lo f u v r a b)) := fun hz => J.iff (fun n' r a b _ _ _ _ => by
        constructor
        · rintro (z | ⟨z1, z2, z3⟩)
          · exact Or.inl z
          · exact Or.inr ⟨z1, by omega, z3⟩
        · rintro (z | ⟨z1, z2, z3⟩)
          · exact Or.inl z
          · by_cases e : r = j
            · subst e
              obtain ⟨y1, y2, y3, y4, y5, y6⟩ := z3
              exact absurd ⟨y2, by omega, by omega⟩ hz
            · exact Or.inr ⟨z1, by omega, z3⟩)
      cases ef : folO p 1 (fo f) j
      · have sk := skip (fun z => by rw [ef] at z; cases z.1)
        have mf := m_mayF g (s := 1) (by decide) hj hf
        rw [ef] at mf
        simp (disch := omega) only [hR_d, hT_d, hI_t, hI_f, hVI_s, hVL_s, hVR_s, hVT_s, hVV_s, hO_s, hB_0, hB_1, hB_2, hB_r, hU_0, hU_1, hU_2, hU_r, hX_r, hL_0, hL_1, hL_2, hL_r, hC_s, h_k0, h_k1, h_k2, h_k3, h_k4, h_k5, h_k6, h_k7, h_k8, h_k9, h_k10, h_k11, h_k12, h_k14, h_k16, h_k18, h_k20, h_k23, h_k24, h_k25, h_k32, h_k44, h_k48, h_k50, h_k54, h_k57, h_k58, h_k59, h_k60, h_k63, h_k97, h_k100, h_k122, h_k177, h_k255, h_k400, h_k450, h_k625, h_k649, h_k708, h_k800, h_k900, h_k2500, h_k22500, h_k45000, h_kn1, h_kn2, h_kJ, h_kU, h_eI, h_eL, h_eR, h_eT, h_b1, h_eZ, h_not, h_b2, h_b0, h_b0L, h_gI, h_gL, h_gN, h_gR, h_aI, h_aL, h_aR, h_aLen, h_tern, h_and, h_or, h_vN, h_vI, h_vJ, h_vA, h_cFv, h_cFs, h_toI, h_toL, h_toV, h_nO, h_nA, g_skip, g_brk, g_cnt, g_retV, g_seq, g_if, g_setI, g_setR, g_setL, g_inc, g_putI, g_putZ, g_putL, g_putR, g_upI, g_AI, g_AL, g_AR, g_UA, g_exp, g_retI, g_retL, g_retZ, g_scope, g_unBrk, g_sup, h_fn, argE_n, argE_i, argE_r, argE_l, argE_a, sto_0, sto_s, sto_n0, sto_ns, isL_i, isL_r, isL_n, isL_a, isL_l, isL_0, rcv_r, rcv_a, List.getElem?_cons_zero, List.getElem?_cons_succ, List.getElem?_nil, List.set_cons_zero, List.set_cons_succ, List.take_succ_cons, List.take_zero, List.take_nil, List.length_cons, List.length_nil, List.nil_append, List.cons_append, Nat.reduceAdd, Nat.reduceSub, Nat.reduceLT, Nat.reduceEqDiff, Nat.reduceLeDiff, Nat.zero_add, Nat.lt_irrefl, Nat.succ_sub_one, and_true, true_and, and_false, false_and, not_false_eq_true, not_true_eq_false, Bool.false_eq_true, Bool.not_true, Bool.not_false, Bool.not_eq_true', Bool.true_eq_false, decide_true, decide_false, decide_eq_true_eq, decide_eq_false_iff_not, Option.some.injEq, and_self, Nat.add_one_sub_one, Nat.lt_add_one, Nat.zero_lt_succ, Value.int.injEq, Value.ref.injEq, Value.long.injEq, exists_eq_left', exists_eq_left, Sum.inl.injEq, Sum.inr.injEq, i2z_b2i, n32_add, n32_mul, n32_inc, n_iEq, n_iNe, n_iLt, n_iLe, n_iGt, n_iGe, n_zEq, n_zLt, n_zLe, n_zGt, n_zGe, n_inb, n32_clamp, hj, g.T.t, g.r3, g.D.t, g.V.kinds, h_of (m_firstOf g hj), h_of (m_secondOf g hj), h_of mf]
        exact ⟨F, sk⟩
      · have mf := m_mayF g (s := 1) (by decide) hj hf
        rw [ef] at mf
        by_cases d0 : u + tkc p j 0 ≤ lS lo 1 0
        · by_cases d1 : v + tkc p j 1 ≤ lS lo 1 1
          · have e1 : i2z (n32 1 &&& 1) = true := by decide
            have pt := J.put (n := n + 1) (r := j) (a := u + tkc p j 0) (b := v + tkc p j 1) (by omega) (by omega) (by omega) e1
            simp (disch := omega) only [hR_d, hT_d, hI_t, hI_f, hVI_s, hVL_s, hVR_s, hVT_s, hVV_s, hO_s, hB_0, hB_1, hB_2, hB_r, hU_0, hU_1, hU_2, hU_r, hX_r, hL_0, hL_1, hL_2, hL_r, hC_s, h_k0, h_k1, h_k2, h_k3, h_k4, h_k5, h_k6, h_k7, h_k8, h_k9, h_k10, h_k11, h_k12, h_k14, h_k16, h_k18, h_k20, h_k23, h_k24, h_k25, h_k32, h_k44, h_k48, h_k50, h_k54, h_k57, h_k58, h_k59, h_k60, h_k63, h_k97, h_k100, h_k122, h_k177, h_k255, h_k400, h_k450, h_k625, h_k649, h_k708, h_k800, h_k900, h_k2500, h_k22500, h_k45000, h_kn1, h_kn2, h_kJ, h_kU, h_eI, h_eL, h_eR, h_eT, h_b1, h_eZ, h_not, h_b2, h_b0, h_b0L, h_gI, h_gL, h_gN, h_gR, h_aI, h_aL, h_aR, h_aLen, h_tern, h_and, h_or, h_vN, h_vI, h_vJ, h_vA, h_cFv, h_cFs, h_toI, h_toL, h_toV, h_nO, h_nA, g_skip, g_brk, g_cnt, g_retV, g_seq, g_if, g_setI, g_setR, g_setL, g_inc, g_putI, g_putZ, g_putL, g_putR, g_upI, g_AI, g_AL, g_AR, g_UA, g_exp, g_retI, g_retL, g_retZ, g_scope, g_unBrk, g_sup, h_fn, argE_n, argE_i, argE_r, argE_l, argE_a, sto_0, sto_s, sto_n0, sto_ns, isL_i, isL_r, isL_n, isL_a, isL_l, isL_0, rcv_r, rcv_a, List.getElem?_cons_zero, List.getElem?_cons_succ, List.getElem?_nil, List.set_cons_zero, List.set_cons_succ, List.take_succ_cons, List.take_zero, List.take_nil, List.length_cons, List.length_nil, List.nil_append, List.cons_append, Nat.reduceAdd, Nat.reduceSub, Nat.reduceLT, Nat.reduceEqDiff, Nat.reduceLeDiff, Nat.zero_add, Nat.lt_irrefl, Nat.succ_sub_one, and_true, true_and, and_false, false_and, not_false_eq_true, not_true_eq_false, Bool.false_eq_true, Bool.not_true, Bool.not_false, Bool.not_eq_true', Bool.true_eq_false, decide_true, decide_false, decide_eq_true_eq, decide_eq_false_iff_not, Option.some.injEq, and_self, Nat.add_one_sub_one, Nat.lt_add_one, Nat.zero_lt_succ, Value.int.injEq, Value.ref.injEq, Value.long.injEq, exists_eq_left', exists_eq_left, Sum.inl.injEq, Sum.inr.injEq, i2z_b2i, n32_add, n32_mul, n32_inc, n_iEq, n_iNe, n_iLt, n_iLe, n_iGt, n_iGe, n_zEq, n_zLt, n_zLe, n_zGt, n_zGe, n_inb, n32_clamp, hj, g.T.t, g.r3, g.D.t, g.V.kinds, h_of (m_firstOf g hj), h_of (m_secondOf g hj), h_of mf, h_of (m_store g (show 1 < 2 by decide) (show 0 < 2 by decide)), h_of (m_store g (show 1 < 2 by decide) (show 1 < 2 by decide)), d0, d1, g.T.r27, g.T.t7, h_of (m_spotOf _ _ _ _), nar, Nat.reduceEqDiff, if_false, if_true]
            refine ⟨by omega, F.pI _ _ rfl, pt.iff (fun n' r a b _ _ _ _ => ?_)⟩
            constructor
            · rintro ((z | ⟨z1, z2, z3⟩) | ⟨rfl, rfl, rfl, rfl⟩)
              · exact Or.inl z
              · exact Or.inr ⟨z1, by omega, z3⟩
              · exact Or.inr ⟨rfl, by omega, hj, ef, rfl, rfl, d0, d1⟩
            · rintro (z | ⟨z1, z2, z3⟩)
              · exact Or.inl (Or.inl z)
              · by_cases e : r = j
                · subst e
                  obtain ⟨y1, y2, y3, y4, y5, y6⟩ := z3
                  exact Or.inr ⟨z1, rfl, y3, y4⟩
                · exact Or.inl (Or.inr ⟨z1, by omega, z3⟩)
          · have sk := skip (fun z => d1 z.2.2)
            simp (disch := omega) only [hR_d, hT_d, hI_t, hI_f, hVI_s, hVL_s, hVR_s, hVT_s, hVV_s, hO_s, hB_0, hB_1, hB_2, hB_r, hU_0, hU_1, hU_2, hU_r, hX_r, hL_0, hL_1, hL_2, hL_r, hC_s, h_k0, h_k1, h_k2, h_k3, h_k4, h_k5, h_k6, h_k7, h_k8, h_k9, h_k10, h_k11, h_k12, h_k14, h_k16, h_k18, h_k20, h_k23, h_k24, h_k25, h_k32, h_k44, h_k48, h_k50, h_k54, h_k57, h_k58, h_k59, h_k60, h_k63, h_k97, h_k100, h_k122, h_k177, h_k255, h_k400, h_k450, h_k625, h_k649, h_k708, h_k800, h_k900, h_k2500, h_k22500, h_k45000, h_kn1, h_kn2, h_kJ, h_kU, h_eI, h_eL, h_eR, h_eT, h_b1, h_eZ, h_not, h_b2, h_b0, h_b0L, h_gI, h_gL, h_gN, h_gR, h_aI, h_aL, h_aR, h_aLen, h_tern, h_and, h_or, h_vN, h_vI, h_vJ, h_vA, h_cFv, h_cFs, h_toI, h_toL, h_toV, h_nO, h_nA, g_skip, g_brk, g_cnt, g_retV, g_seq, g_if, g_setI, g_setR, g_setL, g_inc, g_putI, g_putZ, g_putL, g_putR, g_upI, g_AI, g_AL, g_AR, g_UA, g_exp, g_retI, g_retL, g_retZ, g_scope, g_unBrk, g_sup, h_fn, argE_n, argE_i, argE_r, argE_l, argE_a, sto_0, sto_s, sto_n0, sto_ns, isL_i, isL_r, isL_n, isL_a, isL_l, isL_0, rcv_r, rcv_a, List.getElem?_cons_zero, List.getElem?_cons_succ, List.getElem?_nil, List.set_cons_zero, List.set_cons_succ, List.take_succ_cons, List.take_zero, List.take_nil, List.length_cons, List.length_nil, List.nil_append, List.cons_append, Nat.reduceAdd, Nat.reduceSub, Nat.reduceLT, Nat.reduceEqDiff, Nat.reduceLeDiff, Nat.zero_add, Nat.lt_irrefl, Nat.succ_sub_one, and_true, true_and, and_false, false_and, not_false_eq_true, not_true_eq_false, Bool.false_eq_true, Bool.not_true, Bool.not_false, Bool.not_eq_true', Bool.true_eq_false, decide_true, decide_false, decide_eq_true_eq, decide_eq_false_iff_not, Option.some.injEq, and_self, Nat.add_one_sub_one, Nat.lt_add_one, Nat.zero_lt_succ, Value.int.injEq, Value.ref.injEq, Value.long.injEq, exists_eq_left', exists_eq_left, Sum.inl.injEq, Sum.inr.injEq, i2z_b2i, n32_add, n32_mul, n32_inc, n_iEq, n_iNe, n_iLt, n_iLe, n_iGt, n_iGe, n_zEq, n_zLt, n_zLe, n_zGt, n_zGe, n_inb, n32_clamp, hj, g.T.t, g.r3, g.D.t, g.V.kinds, h_of (m_firstOf g hj), h_of (m_secondOf g hj), h_of mf, h_of (m_store g (show 1 < 2 by decide) (show 0 < 2 by decide)), h_of (m_store g (show 1 < 2 by decide) (show 1 < 2 by decide)), d0, d1]
            exact ⟨F, sk⟩
        · have sk := skip (fun z => d0 z.2.1)
          simp (disch := omega) only [hR_d, hT_d, hI_t, hI_f, hVI_s, hVL_s, hVR_s, hVT_s, hVV_s, hO_s, hB_0, hB_1, hB_2, hB_r, hU_0, hU_1, hU_2, hU_r, hX_r, hL_0, hL_1, hL_2, hL_r, hC_s, h_k0, h_k1, h_k2, h_k3, h_k4, h_k5, h_k6, h_k7, h_k8, h_k9, h_k10, h_k11, h_k12, h_k14, h_k16, h_k18, h_k20, h_k23, h_k24, h_k25, h_k32, h_k44, h_k48, h_k50, h_k54, h_k57, h_k58, h_k59, h_k60, h_k63, h_k97, h_k100, h_k122, h_k177, h_k255, h_k400, h_k450, h_k625, h_k649, h_k708, h_k800, h_k900, h_k2500, h_k22500, h_k45000, h_kn1, h_kn2, h_kJ, h_kU, h_eI, h_eL, h_eR, h_eT, h_b1, h_eZ, h_not, h_b2, h_b0, h_b0L, h_gI, h_gL, h_gN, h_gR, h_aI, h_aL, h_aR, h_aLen, h_tern, h_and, h_or, h_vN, h_vI, h_vJ, h_vA, h_cFv, h_cFs, h_toI, h_toL, h_toV, h_nO, h_nA, g_skip, g_brk, g_cnt, g_retV, g_seq, g_if, g_setI, g_setR, g_setL, g_inc, g_putI, g_putZ, g_putL, g_putR, g_upI, g_AI, g_AL, g_AR, g_UA, g_exp, g_retI, g_retL, g_retZ, g_scope, g_unBrk, g_sup, h_fn, argE_n, argE_i, argE_r, argE_l, argE_a, sto_0, sto_s, sto_n0, sto_ns, isL_i, isL_r, isL_n, isL_a, isL_l, isL_0, rcv_r, rcv_a, List.getElem?_cons_zero, List.getElem?_cons_succ, List.getElem?_nil, List.set_cons_zero, List.set_cons_succ, List.take_succ_cons, List.take_zero, List.take_nil, List.length_cons, List.length_nil, List.nil_append, List.cons_append, Nat.reduceAdd, Nat.reduceSub, Nat.reduceLT, Nat.reduceEqDiff, Nat.reduceLeDiff, Nat.zero_add, Nat.lt_irrefl, Nat.succ_sub_one, and_true, true_and, and_false, false_and, not_false_eq_true, not_true_eq_false, Bool.false_eq_true, Bool.not_true, Bool.not_false, Bool.not_eq_true', Bool.true_eq_false, decide_true, decide_false, decide_eq_true_eq, decide_eq_false_iff_not, Option.some.injEq, and_self, Nat.add_one_sub_one, Nat.lt_add_one, Nat.zero_lt_succ, Value.int.injEq, Value.ref.injEq, Value.long.injEq, exists_eq_left', exists_eq_left, Sum.inl.injEq, Sum.inr.injEq, i2z_b2i, n32_add, n32_mul, n32_inc, n_iEq, n_iNe, n_iLt, n_iLe, n_iGt, n_iGe, n_zEq, n_zLt, n_zLe, n_zGt, n_zGe, n_inb, n32_clamp, hj, g.T.t, g.r3, g.D.t, g.V.kinds, h_of (m_firstOf g hj), h_of (m_secondOf g hj), h_of mf, h_of (m_store g (show 1 < 2 by decide) (show 0 < 2 by decide)), d0]
          exact ⟨F, sk⟩
    · rintro e m ⟨rfl, F, J⟩
      have g := h.seven F
      simp (disch := omega) only [hR_d, hT_d, hI_t, hI_f, hVI_s, hVL_s, hVR_s, hVT_s, hVV_s, hO_s, hB_0, hB_1, hB_2, hB_r, hU_0, hU_1, hU_2, hU_r, hX_r, hL_0, hL_1, hL_2, hL_r, hC_s, h_k0, h_k1, h_k2, h_k3, h_k4, h_k5, h_k6, h_k7, h_k8, h_k9, h_k10, h_k11, h_k12, h_k14, h_k16, h_k18, h_k20, h_k23, h_k24, h_k25, h_k32, h_k44, h_k48, h_k50, h_k54, h_k57, h_k58, h_k59, h_k60, h_k63, h_k97, h_k100, h_k122, h_k177, h_k255, h_k400, h_k450, h_k625, h_k649, h_k708, h_k800, h_k900, h_k2500, h_k22500, h_k45000, h_kn1, h_kn2, h_kJ, h_kU, h_eI, h_eL, h_eR, h_eT, h_b1, h_eZ, h_not, h_b2, h_b0, h_b0L, h_gI, h_gL, h_gN, h_gR, h_aI, h_aL, h_aR, h_aLen, h_tern, h_and, h_or, h_vN, h_vI, h_vJ, h_vA, h_cFv, h_cFs, h_toI, h_toL, h_toV, h_nO, h_nA, g_skip, g_brk, g_cnt, g_retV, g_seq, g_if, g_setI, g_setR, g_setL, g_inc, g_putI, g_putZ, g_putL, g_putR, g_upI, g_AI, g_AL, g_AR, g_UA, g_exp, g_retI, g_retL, g_retZ, g_scope, g_unBrk, g_sup, h_fn, argE_n, argE_i, argE_r, argE_l, argE_a, sto_0, sto_s, sto_n0, sto_ns, isL_i, isL_r, isL_n, isL_a, isL_l, isL_0, rcv_r, rcv_a, List.getElem?_cons_zero, List.getElem?_cons_succ, List.getElem?_nil, List.set_cons_zero, List.set_cons_succ, List.take_succ_cons, List.take_zero, List.take_nil, List.length_cons, List.length_nil, List.nil_append, List.cons_append, Nat.reduceAdd, Nat.reduceSub, Nat.reduceLT, Nat.reduceEqDiff, Nat.reduceLeDiff, Nat.zero_add, Nat.lt_irrefl, Nat.succ_sub_one, and_true, true_and, and_false, false_and, not_false_eq_true, not_true_eq_false, Bool.false_eq_true, Bool.not_true, Bool.not_false, Bool.not_eq_true', Bool.true_eq_false, decide_true, decide_false, decide_eq_true_eq, decide_eq_false_iff_not, Option.some.injEq, and_self, Nat.add_one_sub_one, Nat.lt_add_one, Nat.zero_lt_succ, Value.int.injEq, Value.ref.injEq, Value.long.injEq, exists_eq_left', exists_eq_left, Sum.inl.injEq, Sum.inr.injEq, i2z_b2i, n32_add, n32_mul, n32_inc, n_iEq, n_iNe, n_iLt, n_iLe, n_iGt, n_iGe, n_zEq, n_zLt, n_zLe, n_zGt, n_zGe, n_inb, n32_clamp, g.T.t, g.r3, g.D.t, g.V.kinds]
      refine ⟨F, J.iff (fun n' r a b _ _ _ _ => ?_)⟩
      constructor
      · rintro (z | ⟨z1, z2, z3⟩)
        · exact Or.inl z
        · exact Or.inr ⟨z1, z3⟩
      · rintro (z | ⟨z1, z3⟩)
        · exact Or.inl z
        · exact Or.inr ⟨z1, z3.1, z3⟩
  obtain ⟨w, m, h1, rfl, h2⟩ := h_ex key
  exact ⟨m, h1, h2⟩
/-- levels up to n are told, of the next what comes of cells ahead of q -/
def CP (p : Pl) (lo : Lo) (j n q : Nat) : Nat → Nat → Nat → Nat → Prop := fun n' r a b => (n' ≤ n ∧ Cm p lo j n' r a b) ∨ (n' = n + 1 ∧ ∃ f u v, f < 9 ∧ u ≤ 9 ∧ v ≤ 9 ∧ f * 100 + (u * 10 + v) < q ∧ Cm p lo j n f u v ∧ stp p lo f u v r a b)
theorem m_laysCome (h : MC M X C p lo) {j b : Nat} (hj : j ≤ lC lo 1) (hb : b ≤ 24) (v23 : vi M X 23 = n32 j) (v25 : vi M X 25 = n32 b) : ∃ M', f_X10_laysCome [.ref X] M = some (none, M') ∧ Fr (fun a => a = X + 7) M M' ∧ CT M' X (fun n r u v => n ≤ b ∧ Cm p lo j n r u v) := by
  have hK := h.O.kinds
  have c0 := h.L.st 1 0 (by decide) (by decide)
  have c1 := h.L.st 1 1 (by decide) (by decide)
  have ol : ∀ q, lastO lo 1 j = some q → q < 8 := fun q e => by have := lastO_lt h.L (by decide) e; omega
  have okc : ∀ {n f u v}, f < 9 → Cm p lo j n f u v → (f < pK p ∨ f = 8) ∧ u ≤ lS lo 1 0 ∧ v ≤ lS lo 1 1 := fun hf z => Cm_ok h.O h.L z hf
  have key : hF f_X10_laysCome [.ref X] M (fun w M' => w = none ∧ Fr (fun a => a = X + 7) M M' ∧ CT M' X (fun n r u v => n ≤ b ∧ Cm p lo j n r u v)) () := by
    delta f_X10_laysCome b_X10_laysCome
    simp only [hR_d, hT_d, hI_t, hI_f, hVI_s, hVL_s, hVR_s, hVT_s, hVV_s, hO_s, hB_0, hB_1, hB_2, hB_r, hU_0, hU_1, hU_2, hU_r, hX_r, hL_0, hL_1, hL_2, hL_r, hC_s, h_k0, h_k1, h_k2, h_k3, h_k4, h_k5, h_k6, h_k7, h_k8, h_k9, h_k10, h_k11, h_k12, h_k14, h_k16, h_k18, h_k20, h_k23, h_k24, h_k25, h_k32, h_k44, h_k48, h_k50, h_k54, h_k57, h_k58, h_k59, h_k60, h_k63, h_k97, h_k100, h_k122, h_k177, h_k255, h_k400, h_k450, h_k625, h_k649, h_k708, h_k800, h_k900, h_k2500, h_k22500, h_k45000, h_kn1, h_kn2, h_kJ, h_kU, h_eI, h_eL, h_eR, h_eT, h_b1, h_eZ, h_not, h_b2, h_b0, h_b0L, h_gI, h_gL, h_gN, h_gR, h_aI, h_aL, h_aR, h_aLen, h_tern, h_and, h_or, h_vN, h_vI, h_vJ, h_vA, h_cFv, h_cFs, h_toI, h_toL, h_toV, h_nO, h_nA, g_skip, g_brk, g_cnt, g_retV, g_seq, g_if, g_setI, g_setR, g_setL, g_inc, g_putI, g_putZ, g_putL, g_putR, g_upI, g_AI, g_AL, g_AR, g_UA, g_exp, g_retI, g_retL, g_retZ, g_scope, g_unBrk, g_sup, h_fn, argE_n, argE_i, argE_r, argE_l, argE_a, sto_0, sto_s, sto_n0, sto_ns, isL_i, isL_r, isL_n, isL_a, isL_l, isL_0, rcv_r, rcv_a, List.getElem?_cons_zero, List.getElem?_cons_succ, List.getElem?_nil, List.set_cons_zero, List.set_cons_succ, List.take_succ_cons, List.take_zero, List.take_nil, List.length_cons, List.length_nil, List.nil_append, List.cons_append, Nat.reduceAdd, Nat.reduceSub, Nat.reduceLT, Nat.reduceEqDiff, Nat.reduceLeDiff, Nat.zero_add, Nat.lt_irrefl, Nat.succ_sub_one, and_true, true_and, and_false, false_and, not_false_eq_true, not_true_eq_false, Bool.false_eq_true, Bool.not_true, Bool.not_false, Bool.not_eq_true', Bool.true_eq_false, decide_true, decide_false, decide_eq_true_eq, decide_eq_false_iff_not, Option.some.injEq, and_self, Nat.add_one_sub_one, Nat.lt_add_one, Nat.zero_lt_succ, Value.int.injEq, Value.ref.injEq, Value.long.injEq, exists_eq_left', exists_eq_left, Sum.inl.injEq, Sum.inr.injEq, i2z_b2i, n32_add, n32_mul, n32_inc]
    refine h_up (fun k e m => e = [.ref X, .int (n32 k)] ∧ Fr (fun a => a = X + 7) M m ∧ ∀ c, c < k → vi m (X + 7) c = n32 0) 22500 ⟨rfl, Fr.refl _ _, fun c hc => by omega⟩ ?_ ?_
    · rintro k e m hk ⟨rfl, F, J⟩
      have g := h.seven F
      have cl : Int32.ofNat 22500 = n32 22500 := rfl
      simp (disch := omega) only [hR_d, hT_d, hI_t, hI_f, hVI_s, hVL_s, hVR_s, hVT_s, hVV_s, hO_s, hB_0, hB_1, hB_2, hB_r, hU_0, hU_1, hU_2, hU_r, hX_r, hL_0, hL_1, hL_2, hL_r, hC_s, h_k0, h_k1, h_k2, h_k3, h_k4, h_k5, h_k6, h_k7, h_k8, h_k9, h_k10, h_k11, h_k12, h_k14, h_k16, h_k18, h_k20, h_k23, h_k24, h_k25, h_k32, h_k44, h_k48, h_k50, h_k54, h_k57, h_k58, h_k59, h_k60, h_k63, h_k97, h_k100, h_k122, h_k177, h_k255, h_k400, h_k450, h_k625, h_k649, h_k708, h_k800, h_k900, h_k2500, h_k22500, h_k45000, h_kn1, h_kn2, h_kJ, h_kU, h_eI, h_eL, h_eR, h_eT, h_b1, h_eZ, h_not, h_b2, h_b0, h_b0L, h_gI, h_gL, h_gN, h_gR, h_aI, h_aL, h_aR, h_aLen, h_tern, h_and, h_or, h_vN, h_vI, h_vJ, h_vA, h_cFv, h_cFs, h_toI, h_toL, h_toV, h_nO, h_nA, g_skip, g_brk, g_cnt, g_retV, g_seq, g_if, g_setI, g_setR, g_setL, g_inc, g_putI, g_putZ, g_putL, g_putR, g_upI, g_AI, g_AL, g_AR, g_UA, g_exp, g_retI, g_retL, g_retZ, g_scope, g_unBrk, g_sup, h_fn, argE_n, argE_i, argE_r, argE_l, argE_a, sto_0, sto_s, sto_n0, sto_ns, isL_i, isL_r, isL_n, isL_a, isL_l, isL_0, rcv_r, rcv_a, List.getElem?_cons_zero, List.getElem?_cons_succ, List.getElem?_nil, List.set_cons_zero, List.set_cons_succ, List.take_succ_cons, List.take_zero, List.take_nil, List.length_cons, List.length_nil, List.nil_append, List.cons_append, Nat.reduceAdd, Nat.reduceSub, Nat.reduceLT, Nat.reduceEqDiff, Nat.reduceLeDiff, Nat.zero_add, Nat.lt_irrefl, Nat.succ_sub_one, and_true, true_and, and_false, false_and, not_false_eq_true, not_true_eq_false, Bool.false_eq_true, Bool.not_true, Bool.not_false, Bool.not_eq_true', Bool.true_eq_false, decide_true, decide_false, decide_eq_true_eq, decide_eq_false_iff_not, Option.some.injEq, and_self, Nat.add_one_sub_one, Nat.lt_add_one, Nat.zero_lt_succ, Value.int.injEq, Value.ref.injEq, Value.long.injEq, exists_eq_left', exists_eq_left, Sum.inl.injEq, Sum.inr.injEq, i2z_b2i, n32_add, n32_mul, n32_inc, n_iEq, n_iNe, n_iLt, n_iLe, n_iGt, n_iGe, n_zEq, n_zLt, n_zLe, n_zGt, n_zGe, n_inb, n32_clamp, hk, g.T.t, g.T.r27, g.T.t7, cl, nar]
      refine ⟨F.pI _ _ rfl, fun c hc => ?_⟩
      rw [vi_pI]
      by_cases e : c = k
      · subst e; rw [if_pos ⟨rfl, rfl⟩]; rfl
      · rw [if_neg (fun z => e z.2)]; exact J c (by omega)
    · rintro e m ⟨rfl, F, J⟩
      have g := h.seven F
      have cl : Int32.ofNat 22500 = n32 22500 := rfl
      have w23 : vi m X 23 = n32 j := by rw [F.vi (by omega)]; exact v23
      have w25 : vi m X 25 = n32 b := by rw [F.vi (by omega)]; exact v25
      obtain ⟨f, hf, ef1, ef2⟩ := fo_oM (lastO lo 1 j) ol
      have T0 : CT m X (fun _ _ _ _ => False) := fun n r a b h1 h2 h3 h4 => by
        rw [J _ (by omega), i2z_0]; simp
      have e1 : i2z (n32 1 &&& 1) = true := by decide
      have T1 := (T0.put (n := 0) (r := f) (a := 0) (b := 0) hf (by omega) (by omega) e1)
      simp (disch := omega) only [hR_d, hT_d, hI_t, hI_f, hVI_s, hVL_s, hVR_s, hVT_s, hVV_s, hO_s, hB_0, hB_1, hB_2, hB_r, hU_0, hU_1, hU_2, hU_r, hX_r, hL_0, hL_1, hL_2, hL_r, hC_s, h_k0, h_k1, h_k2, h_k3, h_k4, h_k5, h_k6, h_k7, h_k8, h_k9, h_k10, h_k11, h_k12, h_k14, h_k16, h_k18, h_k20, h_k23, h_k24, h_k25, h_k32, h_k44, h_k48, h_k50, h_k54, h_k57, h_k58, h_k59, h_k60, h_k63, h_k97, h_k100, h_k122, h_k177, h_k255, h_k400, h_k450, h_k625, h_k649, h_k708, h_k800, h_k900, h_k2500, h_k22500, h_k45000, h_kn1, h_kn2, h_kJ, h_kU, h_eI, h_eL, h_eR, h_eT, h_b1, h_eZ, h_not, h_b2, h_b0, h_b0L, h_gI, h_gL, h_gN, h_gR, h_aI, h_aL, h_aR, h_aLen, h_tern, h_and, h_or, h_vN, h_vI, h_vJ, h_vA, h_cFv, h_cFs, h_toI, h_toL, h_toV, h_nO, h_nA, g_skip, g_brk, g_cnt, g_retV, g_seq, g_if, g_setI, g_setR, g_setL, g_inc, g_putI, g_putZ, g_putL, g_putR, g_upI, g_AI, g_AL, g_AR, g_UA, g_exp, g_retI, g_retL, g_retZ, g_scope, g_unBrk, g_sup, h_fn, argE_n, argE_i, argE_r, argE_l, argE_a, sto_0, sto_s, sto_n0, sto_ns, isL_i, isL_r, isL_n, isL_a, isL_l, isL_0, rcv_r, rcv_a, List.getElem?_cons_zero, List.getElem?_cons_succ, List.getElem?_nil, List.set_cons_zero, List.set_cons_succ, List.take_succ_cons, List.take_zero, List.take_nil, List.length_cons, List.length_nil, List.nil_append, List.cons_append, Nat.reduceAdd, Nat.reduceSub, Nat.reduceLT, Nat.reduceEqDiff, Nat.reduceLeDiff, Nat.zero_add, Nat.lt_irrefl, Nat.succ_sub_one, and_true, true_and, and_false, false_and, not_false_eq_true, not_true_eq_false, Bool.false_eq_true, Bool.not_true, Bool.not_false, Bool.not_eq_true', Bool.true_eq_false, decide_true, decide_false, decide_eq_true_eq, decide_eq_false_iff_not, Option.some.injEq, and_self, Nat.add_one_sub_one, Nat.lt_add_one, Nat.zero_lt_succ, Value.int.injEq, Value.ref.injEq, Value.long.injEq, exists_eq_left', exists_eq_left, Sum.inl.injEq, Sum.inr.injEq, i2z_b2i, n32_add, n32_mul, n32_inc, n_iEq, n_iNe, n_iLt, n_iLe, n_iGt, n_iGe, n_zEq, n_zLt, n_zLe, n_zGt, n_zGe, n_inb, n32_clamp, g.T.t, g.T.r27, g.T.t7, cl, w23, h_of (m_last g (show 1 < 2 by decide) hj), ef2, h_of (m_spotOf _ _ _ _), nar, Nat.reduceEqDiff, if_false, if_true]
      refine ⟨by omega, ?_⟩
      have F1 : Fr (fun a => a = X + 7) M (pI m (X + 7) (0 * 900 + f * 100 + 0 * 10 + 0) (n32 1 &&& 1)) := F.pI _ _ rfl
      refine h_up (fun n e m => e = [.ref X, .int (n32 n)] ∧ Fr (fun a => a = X + 7) M m ∧ CT m X (fun n' r u v => n' ≤ n ∧ Cm p lo j n' r u v)) b ⟨rfl, F1, T1.iff (fun n' r u v _ hr _ _ => ?_)⟩ ?_ ?_
      · constructor
        · rintro (z | ⟨rfl, rfl, rfl, rfl⟩)
          · exact z.elim
          · exact ⟨Nat.le_refl _, Or.inl ⟨rfl, ef1, rfl, rfl⟩⟩
        · rintro ⟨z1, z2⟩
          right
          have : n' = 0 := by omega
          subst this
          rcases z2 with ⟨-, z3, z4, z5⟩ | ⟨z3, -⟩
          · refine ⟨rfl, ?_, z4, z5⟩
            rw [← ef1] at z3
            unfold fo at z3
            by_cases q1 : r = 8 <;> by_cases q2 : f = 8 <;> simp [q1, q2] at z3 ⊢
            exact z3
          · omega
      · rintro n e m hn ⟨rfl, F, J⟩
        have g := h.seven F
        have w25 : vi m X 25 = n32 b := by rw [F.vi (by omega)]; exact v25
        simp (disch := omega) only [hR_d, hT_d, hI_t, hI_f, hVI_s, hVL_s, hVR_s, hVT_s, hVV_s, hO_s, hB_0, hB_1, hB_2, hB_r, hU_0, hU_1, hU_2, hU_r, hX_r, hL_0, hL_1, hL_2, hL_r, hC_s, h_k0, h_k1, h_k2, h_k3, h_k4, h_k5, h_k6, h_k7, h_k8, h_k9, h_k10, h_k11, h_k12, h_k14, h_k16, h_k18, h_k20, h_k23, h_k24, h_k25, h_k32, h_k44, h_k48, h_k50, h_k54, h_k57, h_k58, h_k59, h_k60, h_k63, h_k97, h_k100, h_k122, h_k177, h_k255, h_k400, h_k450, h_k625, h_k649, h_k708, h_k800, h_k900, h_k2500, h_k22500, h_k45000, h_kn1, h_kn2, h_kJ, h_kU, h_eI, h_eL, h_eR, h_eT, h_b1, h_eZ, h_not, h_b2, h_b0, h_b0L, h_gI, h_gL, h_gN, h_gR, h_aI, h_aL, h_aR, h_aLen, h_tern, h_and, h_or, h_vN, h_vI, h_vJ, h_vA, h_cFv, h_cFs, h_toI, h_toL, h_toV, h_nO, h_nA, g_skip, g_brk, g_cnt, g_retV, g_seq, g_if, g_setI, g_setR, g_setL, g_inc, g_putI, g_putZ, g_putL, g_putR, g_upI, g_AI, g_AL, g_AR, g_UA, g_exp, g_retI, g_retL, g_retZ, g_scope, g_unBrk, g_sup, h_fn, argE_n, argE_i, argE_r, argE_l, argE_a, sto_0, sto_s, sto_n0, sto_ns, isL_i, isL_r, isL_n, isL_a, isL_l, isL_0, rcv_r, rcv_a, List.getElem?_cons_zero, List.getElem?_cons_succ, List.getElem?_nil, List.set_cons_zero, List.set_cons_succ, List.take_succ_cons, List.take_zero, List.take_nil, List.length_cons, List.length_nil, List.nil_append, List.cons_append, Nat.reduceAdd, Nat.reduceSub, Nat.reduceLT, Nat.reduceEqDiff, Nat.reduceLeDiff, Nat.zero_add, Nat.lt_irrefl, Nat.succ_sub_one, and_true, true_and, and_false, false_and, not_false_eq_true, not_true_eq_false, Bool.false_eq_true, Bool.not_true, Bool.not_false, Bool.not_eq_true', Bool.true_eq_false, decide_true, decide_false, decide_eq_true_eq, decide_eq_false_iff_not, Option.some.injEq, and_self, Nat.add_one_sub_one, Nat.lt_add_one, Nat.zero_lt_succ, Value.int.injEq, Value.ref.injEq, Value.long.injEq, exists_eq_left', exists_eq_left, Sum.inl.injEq, Sum.inr.injEq, i2z_b2i, n32_add, n32_mul, n32_inc, n_iEq, n_iNe, n_iLt, n_iLe, n_iGt, n_iGe, n_zEq, n_zLt, n_zLe, n_zGt, n_zGe, n_inb, n32_clamp, hn, g.T.t, w25]
        refine h_up (fun f e m => e = [.ref X, .int (n32 n), .int (n32 f)] ∧ Fr (fun a => a = X + 7) M m ∧ CT m X (CP p lo j n (f * 100))) 9 ⟨rfl, F, J.iff (fun n' r u v _ _ _ _ => ⟨Or.inl, fun z => z.elim id (fun ⟨_, f, u, v, _, _, _, z, _⟩ => by omega)⟩)⟩ ?_ ?_
        · rintro f e m hf ⟨rfl, F, J⟩
          simp (disch := omega) only [hR_d, hT_d, hI_t, hI_f, hVI_s, hVL_s, hVR_s, hVT_s, hVV_s, hO_s, hB_0, hB_1, hB_2, hB_r, hU_0, hU_1, hU_2, hU_r, hX_r, hL_0, hL_1, hL_2, hL_r, hC_s, h_k0, h_k1, h_k2, h_k3, h_k4, h_k5, h_k6, h_k7, h_k8, h_k9, h_k10, h_k11, h_k12, h_k14, h_k16, h_k18, h_k20, h_k23, h_k24, h_k25, h_k32, h_k44, h_k48, h_k50, h_k54, h_k57, h_k58, h_k59, h_k60, h_k63, h_k97, h_k100, h_k122, h_k177, h_k255, h_k400, h_k450, h_k625, h_k649, h_k708, h_k800, h_k900, h_k2500, h_k22500, h_k45000, h_kn1, h_kn2, h_kJ, h_kU, h_eI, h_eL, h_eR, h_eT, h_b1, h_eZ, h_not, h_b2, h_b0, h_b0L, h_gI, h_gL, h_gN, h_gR, h_aI, h_aL, h_aR, h_aLen, h_tern, h_and, h_or, h_vN, h_vI, h_vJ, h_vA, h_cFv, h_cFs, h_toI, h_toL, h_toV, h_nO, h_nA, g_skip, g_brk, g_cnt, g_retV, g_seq, g_if, g_setI, g_setR, g_setL, g_inc, g_putI, g_putZ, g_putL, g_putR, g_upI, g_AI, g_AL, g_AR, g_UA, g_exp, g_retI, g_retL, g_retZ, g_scope, g_unBrk, g_sup, h_fn, argE_n, argE_i, argE_r, argE_l, argE_a, sto_0, sto_s, sto_n0, sto_ns, isL_i, isL_r, isL_n, isL_a, isL_l, isL_0, rcv_r, rcv_a, List.getElem?_cons_zero, List.getElem?_cons_succ, List.getElem?_nil, List.set_cons_zero, List.set_cons_succ, List.take_succ_cons, List.take_zero, List.take_nil, List.length_cons, List.length_nil, List.nil_append, List.cons_append, Nat.reduceAdd, Nat.reduceSub, Nat.reduceLT, Nat.reduceEqDiff, Nat.reduceLeDiff, Nat.zero_add, Nat.lt_irrefl, Nat.succ_sub_one, and_true, true_and, and_false, false_and, not_false_eq_true, not_true_eq_false, Bool.false_eq_true, Bool.not_true, Bool.not_false, Bool.not_eq_true', Bool.true_eq_false, decide_true, decide_false, decide_eq_true_eq, decide_eq_false_iff_not, Option.some.injEq, and_self, Nat.add_one_sub_one, Nat.lt_add_one, Nat.zero_lt_succ, Value.int.injEq, Value.ref.injEq, Value.long.injEq, exists_eq_left', exists_eq_left, Sum.inl.injEq, Sum.inr.injEq, i2z_b2i, n32_add, n32_mul, n32_inc, n_iEq, n_iNe, n_iLt, n_iLe, n_iGt, n_iGe, n_zEq, n_zLt, n_zLe, n_zGt, n_zGe, n_inb, n32_clamp, hf]
          refine h_up (fun k e m => e = [.ref X, .int (n32 n), .int (n32 f), .int (n32 k)] ∧ Fr (fun a => a = X + 7) M m ∧ CT m X (CP p lo j n (f * 100 + k))) 100 ⟨rfl, F, J⟩ ?_ ?_
          · rintro k e m hk ⟨rfl, F, J⟩
            have g := h.seven F
            have hd : n * 900 + f * 100 + k = n * 900 + f * 100 + k / 10 * 10 + k % 10 := by omega
            have cell := J n f (k / 10) (k % 10) (by omega) hf (by omega) (by omega)
            rw [← hd] at cell
            have cell' : i2z (vi m (X + 7) (n * 900 + f * 100 + k)) = true ↔ Cm p lo j n f (k / 10) (k % 10) := by
              rw [cell]
              constructor
              · rintro (z | z)
                · exact z.2
                · omega
              · intro z; exact Or.inl ⟨Nat.le_refl _, z⟩
            have nxq : ∀ n' r a b, (CP p lo j n (f * 100 + k) n' r a b ∨ (n' = n + 1 ∧ Cm p lo j n f (k / 10) (k % 10) ∧ stp p lo f (k / 10) (k % 10) r a b)) ↔ CP p lo j n (f * 100 + (k + 1)) n' r a b := by
              intro n' r a b
              constructor
              · rintro ((z | ⟨z1, f', u, v, z2, z3, z4, z5, z6, z7⟩) | ⟨z1, z2, z3⟩)
                · exact Or.inl z
                · exact Or.inr ⟨z1, f', u, v, z2, z3, z4, by omega, z6, z7⟩
                · exact Or.inr ⟨z1, f, k / 10, k % 10, hf, by omega, by omega, by omega, z2, z3⟩
              · rintro (z | ⟨z1, f', u, v, z2, z3, z4, z5, z6, z7⟩)
                · exact Or.inl (Or.inl z)
                · by_cases e : f' * 100 + (u * 10 + v) = f * 100 + k
                  · have q1 : f' = f := by omega
                    have q2 : u = k / 10 := by omega
                    have q3 : v = k % 10 := by omega
                    subst q1; subst q2; subst q3
                    exact Or.inr ⟨z1, z6, z7⟩
                  · exact Or.inl (Or.inr ⟨z1, f', u, v, z2, z3, z4, by omega, z6, z7⟩)
            cases ez : i2z (vi m (X + 7) (n * 900 + f * 100 + k))
            · simp (disch := omega) only [hR_d, hT_d, hI_t, hI_f, hVI_s, hVL_s, hVR_s, hVT_s, hVV_s, hO_s, hB_0, hB_1, hB_2, hB_r, hU_0, hU_1, hU_2, hU_r, hX_r, hL_0, hL_1, hL_2, hL_r, hC_s, h_k0, h_k1, h_k2, h_k3, h_k4, h_k5, h_k6, h_k7, h_k8, h_k9, h_k10, h_k11, h_k12, h_k14, h_k16, h_k18, h_k20, h_k23, h_k24, h_k25, h_k32, h_k44, h_k48, h_k50, h_k54, h_k57, h_k58, h_k59, h_k60, h_k63, h_k97, h_k100, h_k122, h_k177, h_k255, h_k400, h_k450, h_k625, h_k649, h_k708, h_k800, h_k900, h_k2500, h_k22500, h_k45000, h_kn1, h_kn2, h_kJ, h_kU, h_eI, h_eL, h_eR, h_eT, h_b1, h_eZ, h_not, h_b2, h_b0, h_b0L, h_gI, h_gL, h_gN, h_gR, h_aI, h_aL, h_aR, h_aLen, h_tern, h_and, h_or, h_vN, h_vI, h_vJ, h_vA, h_cFv, h_cFs, h_toI, h_toL, h_toV, h_nO, h_nA, g_skip, g_brk, g_cnt, g_retV, g_seq, g_if, g_setI, g_setR, g_setL, g_inc, g_putI, g_putZ, g_putL, g_putR, g_upI, g_AI, g_AL, g_AR, g_UA, g_exp, g_retI, g_retL, g_retZ, g_scope, g_unBrk, g_sup, h_fn, argE_n, argE_i, argE_r, argE_l, argE_a, sto_0, sto_s, sto_n0, sto_ns, isL_i, isL_r, isL_n, isL_a, isL_l, isL_0, rcv_r, rcv_a, List.getElem?_cons_zero, List.getElem?_cons_succ, List.getElem?_nil, List.set_cons_zero, List.set_cons_succ, List.take_succ_cons, List.take_zero, List.take_nil, List.length_cons, List.length_nil, List.nil_append, List.cons_append, Nat.reduceAdd, Nat.reduceSub, Nat.reduceLT, Nat.reduceEqDiff, Nat.reduceLeDiff, Nat.zero_add, Nat.lt_irrefl, Nat.succ_sub_one, and_true, true_and, and_false, false_and, not_false_eq_true, not_true_eq_false, Bool.false_eq_true, Bool.not_true, Bool.not_false, Bool.not_eq_true', Bool.true_eq_false, decide_true, decide_false, decide_eq_true_eq, decide_eq_false_iff_not, Option.some.injEq, and_self, Nat.add_one_sub_one, Nat.lt_add_one, Nat.zero_lt_succ, Value.int.injEq, Value.ref.injEq, Value.long.injEq, exists_eq_left', exists_eq_left, Sum.inl.injEq, Sum.inr.injEq, i2z_b2i, n32_add, n32_mul, n32_inc, n_iEq, n_iNe, n_iLt, n_iLe, n_iGt, n_iGe, n_zEq, n_zLt, n_zLe, n_zGt, n_zGe, n_inb, n32_clamp, hk, g.T.t, g.T.r27, g.T.t7, ez]
              refine ⟨by omega, F, J.iff (fun n' r a b _ _ _ _ => ?_)⟩
              rw [← nxq]
              refine ⟨Or.inl, fun z => z.elim id (fun z => ?_)⟩
              have := cell'.mpr z.2.1
              rw [ez] at this; cases this
            · have cm := cell'.mp ez
              obtain ⟨o1, o2, o3⟩ := okc hf cm
              obtain ⟨M2, e2, f2, T2⟩ := m_comes g (n := n) (f := f) (u := k / 10) (v := k % 10) (by omega) o1 o2 o3 J
              have d10 : (n32 10 : Int32) ≠ 0 := by decide
              simp (disch := omega) only [hR_d, hT_d, hI_t, hI_f, hVI_s, hVL_s, hVR_s, hVT_s, hVV_s, hO_s, hB_0, hB_1, hB_2, hB_r, hU_0, hU_1, hU_2, hU_r, hX_r, hL_0, hL_1, hL_2, hL_r, hC_s, h_k0, h_k1, h_k2, h_k3, h_k4, h_k5, h_k6, h_k7, h_k8, h_k9, h_k10, h_k11, h_k12, h_k14, h_k16, h_k18, h_k20, h_k23, h_k24, h_k25, h_k32, h_k44, h_k48, h_k50, h_k54, h_k57, h_k58, h_k59, h_k60, h_k63, h_k97, h_k100, h_k122, h_k177, h_k255, h_k400, h_k450, h_k625, h_k649, h_k708, h_k800, h_k900, h_k2500, h_k22500, h_k45000, h_kn1, h_kn2, h_kJ, h_kU, h_eI, h_eL, h_eR, h_eT, h_b1, h_eZ, h_not, h_b2, h_b0, h_b0L, h_gI, h_gL, h_gN, h_gR, h_aI, h_aL, h_aR, h_aLen, h_tern, h_and, h_or, h_vN, h_vI, h_vJ, h_vA, h_cFv, h_cFs, h_toI, h_toL, h_toV, h_nO, h_nA, g_skip, g_brk, g_cnt, g_retV, g_seq, g_if, g_setI, g_setR, g_setL, g_inc, g_putI, g_putZ, g_putL, g_putR, g_upI, g_AI, g_AL, g_AR, g_UA, g_exp, g_retI, g_retL, g_retZ, g_scope, g_unBrk, g_sup, h_fn, argE_n, argE_i, argE_r, argE_l, argE_a, sto_0, sto_s, sto_n0, sto_ns, isL_i, isL_r, isL_n, isL_a, isL_l, isL_0, rcv_r, rcv_a, List.getElem?_cons_zero, List.getElem?_cons_succ, List.getElem?_nil, List.set_cons_zero, List.set_cons_succ, List.take_succ_cons, List.take_zero, List.take_nil, List.length_cons, List.length_nil, List.nil_append, List.cons_append, Nat.reduceAdd, Nat.reduceSub, Nat.reduceLT, Nat.reduceEqDiff, Nat.reduceLeDiff, Nat.zero_add, Nat.lt_irrefl, Nat.succ_sub_one, and_true, true_and, and_false, false_and, not_false_eq_true, not_true_eq_false, Bool.false_eq_true, Bool.not_true, Bool.not_false, Bool.not_eq_true', Bool.true_eq_false, decide_true, decide_false, decide_eq_true_eq, decide_eq_false_iff_not, Option.some.injEq, and_self, Nat.add_one_sub_one, Nat.lt_add_one, Nat.zero_lt_succ, Value.int.injEq, Value.ref.injEq, Value.long.injEq, exists_eq_left', exists_eq_left, Sum.inl.injEq, Sum.inr.injEq, i2z_b2i, n32_add, n32_mul, n32_inc, n_iEq, n_iNe, n_iLt, n_iLe, n_iGt, n_iGe, n_zEq, n_zLt, n_zLe, n_zGt, n_zGe, n_inb, n32_clamp, hk, g.T.t, g.T.r27, g.T.t7, ez, dv10 ⟨k, hk⟩, rm10 ⟨k, hk⟩, h_of e2, d10, ne_eq]
              refine ⟨by omega, F.trans f2, T2.iff (fun n' r a b _ _ _ _ => ?_)⟩
              rw [← nxq]
              exact or_congr Iff.rfl ⟨fun z => ⟨z.1, cm, z.2⟩, fun z => ⟨z.1, z.2.2⟩⟩
          · rintro e m ⟨rfl, F, J⟩
            simp (disch := omega) only [hR_d, hT_d, hI_t, hI_f, hVI_s, hVL_s, hVR_s, hVT_s, hVV_s, hO_s, hB_0, hB_1, hB_2, hB_r, hU_0, hU_1, hU_2, hU_r, hX_r, hL_0, hL_1, hL_2, hL_r, hC_s, h_k0, h_k1, h_k2, h_k3, h_k4, h_k5, h_k6, h_k7, h_k8, h_k9, h_k10, h_k11, h_k12, h_k14, h_k16, h_k18, h_k20, h_k23, h_k24, h_k25, h_k32, h_k44, h_k48, h_k50, h_k54, h_k57, h_k58, h_k59, h_k60, h_k63, h_k97, h_k100, h_k122, h_k177, h_k255, h_k400, h_k450, h_k625, h_k649, h_k708, h_k800, h_k900, h_k2500, h_k22500, h_k45000, h_kn1, h_kn2, h_kJ, h_kU, h_eI, h_eL, h_eR, h_eT, h_b1, h_eZ, h_not, h_b2, h_b0, h_b0L, h_gI, h_gL, h_gN, h_gR, h_aI, h_aL, h_aR, h_aLen, h_tern, h_and, h_or, h_vN, h_vI, h_vJ, h_vA, h_cFv, h_cFs, h_toI, h_toL, h_toV, h_nO, h_nA, g_skip, g_brk, g_cnt, g_retV, g_seq, g_if, g_setI, g_setR, g_setL, g_inc, g_putI, g_putZ, g_putL, g_putR, g_upI, g_AI, g_AL, g_AR, g_UA, g_exp, g_retI, g_retL, g_retZ, g_scope, g_unBrk, g_sup, h_fn, argE_n, argE_i, argE_r, argE_l, argE_a, sto_0, sto_s, sto_n0, sto_ns, isL_i, isL_r, isL_n, isL_a, isL_l, isL_0, rcv_r, rcv_a, List.getElem?_cons_zero, List.getElem?_cons_succ, List.getElem?_nil, List.set_cons_zero, List.set_cons_succ, List.take_succ_cons, List.take_zero, List.take_nil, List.length_cons, List.length_nil, List.nil_append, List.cons_append, Nat.reduceAdd, Nat.reduceSub, Nat.reduceLT, Nat.reduceEqDiff, Nat.reduceLeDiff, Nat.zero_add, Nat.lt_irrefl, Nat.succ_sub_one, and_true, true_and, and_false, false_and, not_false_eq_true, not_true_eq_false, Bool.false_eq_true, Bool.not_true, Bool.not_false, Bool.not_eq_true', Bool.true_eq_false, decide_true, decide_false, decide_eq_true_eq, decide_eq_false_iff_not, Option.some.injEq, and_self, Nat.add_one_sub_one, Nat.lt_add_one, Nat.zero_lt_succ, Value.int.injEq, Value.ref.injEq, Value.long.injEq, exists_eq_left', exists_eq_left, Sum.inl.injEq, Sum.inr.injEq, i2z_b2i, n32_add, n32_mul, n32_inc, n_iEq, n_iNe, n_iLt, n_iLe, n_iGt, n_iGe, n_zEq, n_zLt, n_zLe, n_zGt, n_zGe, n_inb, n32_clamp]
            exact ⟨F, by rw [show (f + 1) * 100 = f * 100 + 100 by omega]; exact J⟩
        · rintro e m ⟨rfl, F, J⟩
          simp (disch := omega) only [hR_d, hT_d, hI_t, hI_f, hVI_s, hVL_s, hVR_s, hVT_s, hVV_s, hO_s, hB_0, hB_1, hB_2, hB_r, hU_0, hU_1, hU_2, hU_r, hX_r, hL_0, hL_1, hL_2, hL_r, hC_s, h_k0, h_k1, h_k2, h_k3, h_k4, h_k5, h_k6, h_k7, h_k8, h_k9, h_k10, h_k11, h_k12, h_k14, h_k16, h_k18, h_k20, h_k23, h_k24, h_k25, h_k32, h_k44, h_k48, h_k50, h_k54, h_k57, h_k58, h_k59, h_k60, h_k63, h_k97, h_k100, h_k122, h_k177, h_k255, h_k400, h_k450, h_k625, h_k649, h_k708, h_k800, h_k900, h_k2500, h_k22500, h_k45000, h_kn1, h_kn2, h_kJ, h_kU, h_eI, h_eL, h_eR, h_eT, h_b1, h_eZ, h_not, h_b2, h_b0, h_b0L, h_gI, h_gL, h_gN, h_gR, h_aI, h_aL, h_aR, h_aLen, h_tern, h_and, h_or, h_vN, h_vI, h_vJ, h_vA, h_cFv, h_cFs, h_toI, h_toL, h_toV, h_nO, h_nA, g_skip, g_brk, g_cnt, g_retV, g_seq, g_if, g_setI, g_setR, g_setL, g_inc, g_putI, g_putZ, g_putL, g_putR, g_upI, g_AI, g_AL, g_AR, g_UA, g_exp, g_retI, g_retL, g_retZ, g_scope, g_unBrk, g_sup, h_fn, argE_n, argE_i, argE_r, argE_l, argE_a, sto_0, sto_s, sto_n0, sto_ns, isL_i, isL_r, isL_n, isL_a, isL_l, isL_0, rcv_r, rcv_a, List.getElem?_cons_zero, List.getElem?_cons_succ, List.getElem?_nil, List.set_cons_zero, List.set_cons_succ, List.take_succ_cons, List.take_zero, List.take_nil, List.length_cons, List.length_nil, List.nil_append, List.cons_append, Nat.reduceAdd, Nat.reduceSub, Nat.reduceLT, Nat.reduceEqDiff, Nat.reduceLeDiff, Nat.zero_add, Nat.lt_irrefl, Nat.succ_sub_one, and_true, true_and, and_false, false_and, not_false_eq_true, not_true_eq_false, Bool.false_eq_true, Bool.not_true, Bool.not_false, Bool.not_eq_true', Bool.true_eq_false, decide_true, decide_false, decide_eq_true_eq, decide_eq_false_iff_not, Option.some.injEq, and_self, Nat.add_one_sub_one, Nat.lt_add_one, Nat.zero_lt_succ, Value.int.injEq, Value.ref.injEq, Value.long.injEq, exists_eq_left', exists_eq_left, Sum.inl.injEq, Sum.inr.injEq, i2z_b2i, n32_add, n32_mul, n32_inc, n_iEq, n_iNe, n_iLt, n_iLe, n_iGt, n_iGe, n_zEq, n_zLt, n_zLe, n_zGt, n_zGe, n_inb, n32_clamp]
          refine ⟨F, J.iff (fun n' r a b _ _ _ _ => ?_)⟩
          constructor
          · rintro (⟨z1, z2⟩ | ⟨z1, f', u, v, z2, z3, z4, z5, z6, z7⟩)
            · exact ⟨by omega, z2⟩
            · subst z1
              exact ⟨Nat.le_refl _, (Cm_s h.O h.L).mpr ⟨f', u, v, z2, z6, z7⟩⟩
          · rintro ⟨z1, z2⟩
            by_cases e : n' = n + 1
            · subst e
              obtain ⟨f', u, v, y1, y2, y3⟩ := (Cm_s h.O h.L).mp z2
              obtain ⟨-, o2, o3⟩ := okc y1 y2
              exact Or.inr ⟨rfl, f', u, v, y1, by omega, by omega, by omega, y2, y3⟩
            · exact Or.inl ⟨by omega, z2⟩
      · rintro e m ⟨rfl, F, J⟩
        have g := h.seven F
        have w25 : vi m X 25 = n32 b := by rw [F.vi (by omega)]; exact v25
        simp (disch := omega) only [hR_d, hT_d, hI_t, hI_f, hVI_s, hVL_s, hVR_s, hVT_s, hVV_s, hO_s, hB_0, hB_1, hB_2, hB_r, hU_0, hU_1, hU_2, hU_r, hX_r, hL_0, hL_1, hL_2, hL_r, hC_s, h_k0, h_k1, h_k2, h_k3, h_k4, h_k5, h_k6, h_k7, h_k8, h_k9, h_k10, h_k11, h_k12, h_k14, h_k16, h_k18, h_k20, h_k23, h_k24, h_k25, h_k32, h_k44, h_k48, h_k50, h_k54, h_k57, h_k58, h_k59, h_k60, h_k63, h_k97, h_k100, h_k122, h_k177, h_k255, h_k400, h_k450, h_k625, h_k649, h_k708, h_k800, h_k900, h_k2500, h_k22500, h_k45000, h_kn1, h_kn2, h_kJ, h_kU, h_eI, h_eL, h_eR, h_eT, h_b1, h_eZ, h_not, h_b2, h_b0, h_b0L, h_gI, h_gL, h_gN, h_gR, h_aI, h_aL, h_aR, h_aLen, h_tern, h_and, h_or, h_vN, h_vI, h_vJ, h_vA, h_cFv, h_cFs, h_toI, h_toL, h_toV, h_nO, h_nA, g_skip, g_brk, g_cnt, g_retV, g_seq, g_if, g_setI, g_setR, g_setL, g_inc, g_putI, g_putZ, g_putL, g_putR, g_upI, g_AI, g_AL, g_AR, g_UA, g_exp, g_retI, g_retL, g_retZ, g_scope, g_unBrk, g_sup, h_fn, argE_n, argE_i, argE_r, argE_l, argE_a, sto_0, sto_s, sto_n0, sto_ns, isL_i, isL_r, isL_n, isL_a, isL_l, isL_0, rcv_r, rcv_a, List.getElem?_cons_zero, List.getElem?_cons_succ, List.getElem?_nil, List.set_cons_zero, List.set_cons_succ, List.take_succ_cons, List.take_zero, List.take_nil, List.length_cons, List.length_nil, List.nil_append, List.cons_append, Nat.reduceAdd, Nat.reduceSub, Nat.reduceLT, Nat.reduceEqDiff, Nat.reduceLeDiff, Nat.zero_add, Nat.lt_irrefl, Nat.succ_sub_one, and_true, true_and, and_false, false_and, not_false_eq_true, not_true_eq_false, Bool.false_eq_true, Bool.not_true, Bool.not_false, Bool.not_eq_true', Bool.true_eq_false, decide_true, decide_false, decide_eq_true_eq, decide_eq_false_iff_not, Option.some.injEq, and_self, Nat.add_one_sub_one, Nat.lt_add_one, Nat.zero_lt_succ, Value.int.injEq, Value.ref.injEq, Value.long.injEq, exists_eq_left', exists_eq_left, Sum.inl.injEq, Sum.inr.injEq, i2z_b2i, n32_add, n32_mul, n32_inc, n_iEq, n_iNe, n_iLt, n_iLe, n_iGt, n_iGe, n_zEq, n_zLt, n_zLe, n_zGt, n_zGe, n_inb, n32_clamp, g.T.t, w25]
        exact ⟨F, J⟩
  obtain ⟨w, m, h1, rfl, h2⟩ := h_ex key
  exact ⟨m, h1, h2⟩
end
