/-! WHAT MAY COME NEXT, by chains -/
theorem nxt_folO (p : Pl) (s : Nat) (o : Option Nat) (l : List Nat) : nxt (fol p s) (folO p s o) l.getLast? = folO p s (lastL o l) := by
  unfold lastL
  cases l.getLast? with
  | none => rfl
  | some z => rfl
theorem useL_cons (p : Pl) (c r : Nat) (l : List Nat) : useL p c (r :: l) = tkc p r c + useL p c l := rfl
theorem left_core {p : Pl} {lo : Lo} {i j a b : Nat} {pre : List Nat} {r : Nat} (hp : pre.length < a) (hc : chL p lo 0 i pre) : Ext (VT p lo i j a b) (pre ++ [r]) ↔ folO p 0 (lastL (lastO lo 0 i) pre) r = true ∧ r < pK p ∧ ∃ l2 e q, pre.length + 1 + l2.length = a ∧ pthR (fol p 0) (fol p 0 r) l2 ∧ (∀ x, x ∈ l2 → x < pK p) ∧ useL p 0 pre + (tkc p r 0 + useL p 0 l2) ≤ lS lo 0 0 ∧ useL p 1 pre + (tkc p r 1 + useL p 1 l2) ≤ lS lo 0 1 ∧ lastL (some r) l2 = some e ∧ EL p lo 1 j b q = true ∧ pNx p e q = true := by
  rw [Ext_left hp]
  constructor
  · rintro ⟨l2, e, q, h1, ⟨h2, h3, h4, h5⟩, h6, h7, h8⟩
    rw [pthR_app, nxt_folO] at h2
    rw [useL_app, useL_cons] at h4 h5
    exact ⟨h2.2.1, h3 r (by simp), l2, e, q, h1, h2.2.2, fun x hx => h3 x (by simp [hx]), h4, h5, h6, h7, h8⟩
  · rintro ⟨g1, g2, l2, e, q, h1, h2, h3, h4, h5, h6, h7, h8⟩
    refine ⟨l2, e, q, h1, ⟨?_, ?_, ?_, ?_⟩, h6, h7, h8⟩
    · rw [pthR_app, nxt_folO]
      exact ⟨hc.1, g1, h2⟩
    · intro x hx
      rcases List.mem_append.mp hx with z | z
      · exact hc.2.1 x z
      · rcases List.mem_cons.mp z with z | z
        · rw [z]; exact g2
        · exact h3 x z
    · rw [useL_app, useL_cons]; exact h4
    · rw [useL_app, useL_cons]; exact h5
def cA (p : Pl) (x : Nat) (w : List Nat) (r : Nat) : Prop := match w.getLast? with | none => pNx p x r = true | some z => fol p 1 r z = true
def FW1 (p : Pl) (lo : Lo) (j n u v r : Nat) : Prop := FWL p (fol p 1) (folO p 1 (lastO lo 1 j)) (lS lo 1 0) (lS lo 1 1) n u v r
theorem right_core {p : Pl} {lo : Lo} {i j a b : Nat} {l w : List Nat} {r x : Nat} (hl : l.length = a) (hw : w.length < b) (hc : chL p lo 0 i l) (hx : lastL (lastO lo 0 i) l = some x) (hE : Ext (VT p lo i j a b) (l ++ w)) : Ext (VT p lo i j a b) (l ++ w ++ [r]) ↔ cA p x w r ∧ ∃ u v, u + useL p 0 w ≤ lS lo 1 0 ∧ v + useL p 1 w ≤ lS lo 1 1 ∧ FW1 p lo j (b - w.length) u v r := by
  rw [Ext_right hl hw hc hx]
  constructor
  · rintro ⟨c, y, h1, ⟨h2, h3, h4, h5⟩, h6, h7⟩
    have e : c ++ r :: w.reverse = (c ++ [r]) ++ w.reverse := by simp
    rw [e, pthR_app] at h2
    rw [e, useL_app, useL_rev] at h4 h5
    have gl : (c ++ [r]).getLast? = some r := by simp
    rw [gl] at h2
    refine ⟨?_, useL p 0 (c ++ [r]), useL p 1 (c ++ [r]), h4, h5, c ++ [r], by simp; omega, h2.1, fun z hz => h3 z (by rw [e]; exact List.mem_append_left _ hz), rfl, rfl, by omega, by omega, gl⟩
    unfold cA
    rcases List.eq_nil_or_concat w with rfl | ⟨w0, z, rfl⟩
    · cases h6
      exact h7
    · rw [List.concat_eq_append] at *
      rw [List.getLast?_append]
      have q := h2.2
      rw [List.reverse_append] at q
      exact q.1
  · rintro ⟨g1, u, v, g2, g3, q, q1, q2, q3, rfl, rfl, q6, q7, q8⟩
    obtain ⟨c, rfl⟩ := snoc_of q8
    have e : c ++ r :: w.reverse = (c ++ [r]) ++ w.reverse := by simp
    have gl : (c ++ [r]).getLast? = some r := by simp
    have main : pthR (fol p 1) (fol p 1 r) w.reverse ∧ (∀ z, z ∈ w → z < pK p) ∧ ∃ y, lastL (some r) w.reverse = some y ∧ pNx p x y = true := by
      unfold cA at g1
      rcases List.eq_nil_or_concat w with rfl | ⟨w0, z, rfl⟩
      · exact ⟨trivial, fun z hz => by simp at hz, r, rfl, g1⟩
      · rw [List.concat_eq_append] at *
        rw [List.getLast?_append] at g1
        have g1 : fol p 1 r z = true := g1
        rw [← List.append_assoc] at hE
        have hw0 : w0.length < b := by simp at hw; omega
        obtain ⟨c2, y2, k1, k2, k3, k4⟩ := (Ext_right hl hw0 hc hx).mp hE
        have k5 := (pthR_app _ _ c2 _).mp k2.1
        rw [List.reverse_append]
        refine ⟨⟨g1, k5.2.2⟩, fun y hy => k2.2.1 y ?_, y2, ?_, k4⟩
        · rcases List.mem_append.mp hy with hy | hy
          · exact List.mem_append_right _ (List.mem_cons_of_mem _ (List.mem_reverse.mpr hy))
          · simp at hy; subst hy; simp
        · show lastL (some r) (z :: w0.reverse) = some y2
          rw [lastL_cons]; exact k3
    obtain ⟨m1, m2, y, m3, m4⟩ := main
    refine ⟨c, y, by simp at q1; omega, ⟨?_, ?_, ?_, ?_⟩, m3, m4⟩
    · rw [e, pthR_app, gl]
      exact ⟨q2, m1⟩
    · intro z hz
      rw [e] at hz
      rcases List.mem_append.mp hz with hz | hz
      · exact q3 z hz
      · exact m2 z (List.mem_reverse.mp hz)
    · rw [e, useL_app, useL_rev]; exact g2
    · rw [e, useL_app, useL_rev]; exact g3
/-- budgets, as the reference holds them -/
def LQ (p : Pl) (lo : Lo) (j b : Nat) (w : List Nat) (u v : Nat) : Prop := match w.getLast? with
  | none => True
  | some z => FW1 p lo j (b - w.length + 1) (u + tkc p z 0) (v + tkc p z 1) z ∧ u + useL p 0 w ≤ lS lo 1 0 ∧ v + useL p 1 w ≤ lS lo 1 1
theorem right_ref {p : Pl} {lo : Lo} (L : LoOK (pK p) lo) {i j a b : Nat} {l w : List Nat} {r x : Nat} (hl : l.length = a) (hw : w.length < b) (hc : chL p lo 0 i l) (hx : lastL (lastO lo 0 i) l = some x) (hE : Ext (VT p lo i j a b) (l ++ w)) : Ext (VT p lo i j a b) (l ++ w ++ [r]) ↔ cA p x w r ∧ ∃ u v, u ≤ 9 ∧ v ≤ 9 ∧ LQ p lo j b w u v ∧ FW1 p lo j (b - w.length) u v r := by
  have s0 := L.st 1 0 (by decide) (by decide)
  have s1 := L.st 1 1 (by decide) (by decide)
  rw [right_core hl hw hc hx hE]
  refine and_congr_right fun g1 => ?_
  constructor
  · rintro ⟨u, v, h1, h2, h3⟩
    refine ⟨u, v, by omega, by omega, ?_, h3⟩
    unfold LQ
    unfold cA at g1
    rcases List.eq_nil_or_concat w with rfl | ⟨w0, z, rfl⟩
    · trivial
    · rw [List.concat_eq_append] at *
      rw [List.getLast?_append] at g1 ⊢
      have g1 : fol p 1 r z = true := g1
      have hz : z < pK p := by
        obtain ⟨t, ht⟩ := hE
        exact ht.lt z (by simp)
      have e0 : useL p 0 (w0 ++ [z]) = useL p 0 w0 + tkc p z 0 := useL_snoc _ _ _ _
      have e1 : useL p 1 (w0 ++ [z]) = useL p 1 w0 + tkc p z 1 := useL_snoc _ _ _ _
      show FW1 p lo j (b - (w0 ++ [z]).length + 1) (u + tkc p z 0) (v + tkc p z 1) z ∧ u + useL p 0 (w0 ++ [z]) ≤ lS lo 1 0 ∧ v + useL p 1 (w0 ++ [z]) ≤ lS lo 1 1
      exact ⟨(FWL_s (by omega)).mpr ⟨u, v, r, h3, g1, hz, rfl, rfl, by omega, by omega⟩, h1, h2⟩
  · rintro ⟨u, v, h1, h2, h3, h4⟩
    refine ⟨u, v, ?_, ?_, h4⟩
    · unfold LQ at h3
      rcases List.eq_nil_or_concat w with rfl | ⟨w0, z, rfl⟩
      · have := (FWL_lt h4).2.1
        simpa [useL] using this
      · rw [List.concat_eq_append] at *
        rw [List.getLast?_append] at h3
        exact h3.2.1
    · unfold LQ at h3
      rcases List.eq_nil_or_concat w with rfl | ⟨w0, z, rfl⟩
      · have := (FWL_lt h4).2.2.1
        simpa [useL] using this
      · rw [List.concat_eq_append] at *
        rw [List.getLast?_append] at h3
        exact h3.2.2
theorem LQ_next {p : Pl} {lo : Lo} (L : LoOK (pK p) lo) {j b : Nat} {w : List Nat} {r x u v : Nat} (hw : w.length < b) (hA : cA p x w r) (hz : ∀ z, z ∈ w → z < pK p) : (u + tkc p r 0 ≤ 9 ∧ v + tkc p r 1 ≤ 9 ∧ LQ p lo j b w (u + tkc p r 0) (v + tkc p r 1) ∧ FW1 p lo j (b - w.length) (u + tkc p r 0) (v + tkc p r 1) r) ↔ LQ p lo j b (w ++ [r]) u v := by
  have s0 := L.st 1 0 (by decide) (by decide)
  have s1 := L.st 1 1 (by decide) (by decide)
  have e0 : useL p 0 (w ++ [r]) = useL p 0 w + tkc p r 0 := useL_snoc _ _ _ _
  have e1 : useL p 1 (w ++ [r]) = useL p 1 w + tkc p r 1 := useL_snoc _ _ _ _
  have el : b - (w ++ [r]).length + 1 = b - w.length := by simp; omega
  have un : LQ p lo j b (w ++ [r]) u v ↔ FW1 p lo j (b - w.length) (u + tkc p r 0) (v + tkc p r 1) r ∧ u + (useL p 0 w + tkc p r 0) ≤ lS lo 1 0 ∧ v + (useL p 1 w + tkc p r 1) ≤ lS lo 1 1 := by
    unfold LQ
    rw [List.getLast?_append, el, e0, e1]
    exact Iff.rfl
  rw [un]
  constructor
  · rintro ⟨h1, h2, h3, h4⟩
    refine ⟨h4, ?_, ?_⟩
    · unfold LQ at h3
      rcases List.eq_nil_or_concat w with rfl | ⟨w0, z, rfl⟩
      · have := (FWL_lt h4).2.1
        simp [useL]; omega
      · rw [List.concat_eq_append] at *
        rw [List.getLast?_append] at h3
        have := h3.2.1
        omega
    · unfold LQ at h3
      rcases List.eq_nil_or_concat w with rfl | ⟨w0, z, rfl⟩
      · have := (FWL_lt h4).2.2.1
        simp [useL]; omega
      · rw [List.concat_eq_append] at *
        rw [List.getLast?_append] at h3
        have := h3.2.2
        omega
  · rintro ⟨h1, h2, h3⟩
    refine ⟨by omega, by omega, ?_, h1⟩
    unfold LQ
    unfold cA at hA
    rcases List.eq_nil_or_concat w with rfl | ⟨w0, z, rfl⟩
    · trivial
    · rw [List.concat_eq_append] at *
      rw [List.getLast?_append] at hA ⊢
      have hA : fol p 1 r z = true := hA
      have hzz := hz z (by simp)
      have q0 : useL p 0 (w0 ++ [z]) = useL p 0 w0 + tkc p z 0 := useL_snoc _ _ _ _
      have q1 : useL p 1 (w0 ++ [z]) = useL p 1 w0 + tkc p z 1 := useL_snoc _ _ _ _
      show FW1 p lo j (b - (w0 ++ [z]).length + 1) (u + tkc p r 0 + tkc p z 0) (v + tkc p r 1 + tkc p z 1) z ∧ u + tkc p r 0 + useL p 0 (w0 ++ [z]) ≤ lS lo 1 0 ∧ v + tkc p r 1 + useL p 1 (w0 ++ [z]) ≤ lS lo 1 1
      exact ⟨(FWL_s (by omega)).mpr ⟨_, _, r, h1, hA, hzz, rfl, rfl, by omega, by omega⟩, by omega, by omega⟩
def LT (M : qM) (X : Nat) (P : Nat → Nat → Prop) : Prop := ∀ u v, u ≤ 9 → v ≤ 9 → (i2z (vi M (X + 8) (u * 10 + v)) = true ↔ P u v)
theorem LT.iff {M : qM} {X : Nat} {P Q : Nat → Nat → Prop} (h : LT M X P) (e : ∀ u v, u ≤ 9 → v ≤ 9 → (P u v ↔ Q u v)) : LT M X Q := fun u v h1 h2 => (h u v h1 h2).trans (e u v h1 h2)
theorem LT.at {M : qM} {X : Nat} {P : Nat → Nat → Prop} (h : LT M X P) {k : Nat} (hk : k < 100) : i2z (vi M (X + 8) k) = true ↔ P (k / 10) (k % 10) := by
  have := h (k / 10) (k % 10) (by omega) (by omega)
  rwa [show k / 10 * 10 + k % 10 = k by omega] at this
theorem CT.at {M : qM} {X : Nat} {P : Nat → Nat → Nat → Nat → Prop} (h : CT M X P) {n r k : Nat} (hn : n ≤ 24) (hr : r < 9) (hk : k < 100) : i2z (vi M (X + 7) (n * 900 + r * 100 + k)) = true ↔ P n r (k / 10) (k % 10) := by
  have := h n r (k / 10) (k % 10) hn hr (by omega) (by omega)
  rwa [show n * 900 + r * 100 + k / 10 * 10 + k % 10 = n * 900 + r * 100 + k by omega] at this
theorem b2i_and1 (b : Bool) : b2i b &&& 1 = b2i b := by cases b <;> decide
section
variable {M : qM} {X C : Nat} {p : Pl} {lo : Lo} {A : Ab}
theorem MC.eight {M' : qM} (h : MC M X C p lo) (f : Fr (fun a => a = X + 8) M M') : MC M' X C p lo := h.fr f (fun a e => by subst e; have := h.d; exact ⟨by omega, by omega⟩)
theorem m_isAny (h : MC M X C p lo) {n r : Nat} (hn : n ≤ 24) (hr : r < 9) {P : Nat → Nat → Nat → Nat → Prop} {Q : Nat → Nat → Prop} (T : CT M X P) (T2 : LT M X Q) : ∃ b, f_X10_isAny [.ref X, .int (n32 n), .int (n32 r)] M = some (some (.int (b2i b)), M) ∧ (b = true ↔ ∃ u v, u ≤ 9 ∧ v ≤ 9 ∧ Q u v ∧ P n r u v) := by
  have key : hF f_X10_isAny [.ref X, .int (n32 n), .int (n32 r)] M (fun w M' => ∃ b, w = some (Value.int (b2i b)) ∧ M' = M ∧ (b = true ↔ ∃ u v, u ≤ 9 ∧ v ≤ 9 ∧ Q u v ∧ P n r u v)) () := by
    delta f_X10_isAny b_X10_isAny
    simp only [hR_d, hT_d, hI_t, hI_f, hVI_s, hVL_s, hVR_s, hVT_s, hVV_s, hO_s, hB_0, hB_1, hB_2, hB_r, hU_0, hU_1, hU_2, hU_r, hX_r, hL_0, hL_1, hL_2, hL_r, hC_s, h_k0, h_k1, h_k2, h_k3, h_k4, h_k5, h_k6, h_k7, h_k8, h_k9, h_k10, h_k11, h_k12, h_k14, h_k16, h_k18, h_k20, h_k23, h_k24, h_k25, h_k32, h_k44, h_k48, h_k50, h_k54, h_k57, h_k58, h_k59, h_k60, h_k63, h_k97, h_k100, h_k122, h_k177, h_k255, h_k400, h_k450, h_k625, h_k649, h_k708, h_k800, h_k900, h_k2500, h_k22500, h_k45000, h_kn1, h_kn2, h_kJ, h_kU, h_eI, h_eL, h_eR, h_eT, h_b1, h_eZ, h_not, h_b2, h_b0, h_b0L, h_gI, h_gL, h_gN, h_gR, h_aI, h_aL, h_aR, h_aLen, h_tern, h_and, h_or, h_vN, h_vI, h_vJ, h_vA, h_cFv, h_cFs, h_toI, h_toL, h_toV, h_nO, h_nA, g_skip, g_brk, g_cnt, g_retV, g_seq, g_if, g_setI, g_setR, g_setL, g_inc, g_putI, g_putZ, g_putL, g_putR, g_upI, g_AI, g_AL, g_AR, g_UA, g_exp, g_retI, g_retL, g_retZ, g_scope, g_unBrk, g_sup, h_fn, argE_n, argE_i, argE_r, argE_l, argE_a, sto_0, sto_s, sto_n0, sto_ns, isL_i, isL_r, isL_n, isL_a, isL_l, isL_0, rcv_r, rcv_a, List.getElem?_cons_zero, List.getElem?_cons_succ, List.getElem?_nil, List.set_cons_zero, List.set_cons_succ, List.take_succ_cons, List.take_zero, List.take_nil, List.length_cons, List.length_nil, List.nil_append, List.cons_append, Nat.reduceAdd, Nat.reduceSub, Nat.reduceLT, Nat.reduceEqDiff, Nat.reduceLeDiff, Nat.zero_add, Nat.lt_irrefl, Nat.succ_sub_one, and_true, true_and, and_false, false_and, not_false_eq_true, not_true_eq_false, Bool.false_eq_true, Bool.not_true, Bool.not_false, Bool.not_eq_true', Bool.true_eq_false, decide_true, decide_false, decide_eq_true_eq, decide_eq_false_iff_not, Option.some.injEq, and_self, Nat.add_one_sub_one, Nat.lt_add_one, Nat.zero_lt_succ, Value.int.injEq, Value.ref.injEq, Value.long.injEq, exists_eq_left', exists_eq_left, Sum.inl.injEq, Sum.inr.injEq, i2z_b2i, n32_add, n32_mul, n32_inc]
    refine h_up (fun k e m => e = [.ref X, .int (n32 n), .int (n32 r), .int (n32 k)] ∧ m = M ∧ ∀ k', k' < k → ¬ (Q (k' / 10) (k' % 10) ∧ P n r (k' / 10) (k' % 10))) 100 ⟨rfl, rfl, fun k' hk => by omega⟩ ?_ ?_
    · rintro k e m hk ⟨rfl, rfl, J⟩
      have q1 := T2.at hk
      have q2 := T.at hn hr hk
      have skip : ¬ (Q (k / 10) (k % 10) ∧ P n r (k / 10) (k % 10)) → ∀ k', k' < k + 1 → ¬ (Q (k' / 10) (k' % 10) ∧ P n r (k' / 10) (k' % 10)) := by
        intro hz k' hk'
        by_cases e : k' = k
        · subst e; exact hz
        · exact J k' (by omega)
      cases e1 : i2z (vi m (X + 8) k)
      · simp (disch := omega) only [hR_d, hT_d, hI_t, hI_f, hVI_s, hVL_s, hVR_s, hVT_s, hVV_s, hO_s, hB_0, hB_1, hB_2, hB_r, hU_0, hU_1, hU_2, hU_r, hX_r, hL_0, hL_1, hL_2, hL_r, hC_s, h_k0, h_k1, h_k2, h_k3, h_k4, h_k5, h_k6, h_k7, h_k8, h_k9, h_k10, h_k11, h_k12, h_k14, h_k16, h_k18, h_k20, h_k23, h_k24, h_k25, h_k32, h_k44, h_k48, h_k50, h_k54, h_k57, h_k58, h_k59, h_k60, h_k63, h_k97, h_k100, h_k122, h_k177, h_k255, h_k400, h_k450, h_k625, h_k649, h_k708, h_k800, h_k900, h_k2500, h_k22500, h_k45000, h_kn1, h_kn2, h_kJ, h_kU, h_eI, h_eL, h_eR, h_eT, h_b1, h_eZ, h_not, h_b2, h_b0, h_b0L, h_gI, h_gL, h_gN, h_gR, h_aI, h_aL, h_aR, h_aLen, h_tern, h_and, h_or, h_vN, h_vI, h_vJ, h_vA, h_cFv, h_cFs, h_toI, h_toL, h_toV, h_nO, h_nA, g_skip, g_brk, g_cnt, g_retV, g_seq, g_if, g_setI, g_setR, g_setL, g_inc, g_putI, g_putZ, g_putL, g_putR, g_upI, g_AI, g_AL, g_AR, g_UA, g_exp, g_retI, g_retL, g_retZ, g_scope, g_unBrk, g_sup, h_fn, argE_n, argE_i, argE_r, argE_l, argE_a, sto_0, sto_s, sto_n0, sto_ns, isL_i, isL_r, isL_n, isL_a, isL_l, isL_0, rcv_r, rcv_a, List.getElem?_cons_zero, List.getElem?_cons_succ, List.getElem?_nil, List.set_cons_zero, List.set_cons_succ, List.take_succ_cons, List.take_zero, List.take_nil, List.length_cons, List.length_nil, List.nil_append, List.cons_append, Nat.reduceAdd, Nat.reduceSub, Nat.reduceLT, Nat.reduceEqDiff, Nat.reduceLeDiff, Nat.zero_add, Nat.lt_irrefl, Nat.succ_sub_one, and_true, true_and, and_false, false_and, not_false_eq_true, not_true_eq_false, Bool.false_eq_true, Bool.not_true, Bool.not_false, Bool.not_eq_true', Bool.true_eq_false, decide_true, decide_false, decide_eq_true_eq, decide_eq_false_iff_not, Option.some.injEq, and_self, Nat.add_one_sub_one, Nat.lt_add_one, Nat.zero_lt_succ, Value.int.injEq, Value.ref.injEq, Value.long.injEq, exists_eq_left', exists_eq_left, Sum.inl.injEq, Sum.inr.injEq, i2z_b2i, n32_add, n32_mul, n32_inc, n_iEq, n_iNe, n_iLt, n_iLe, n_iGt, n_iGe, n_zEq, n_zLt, n_zLe, n_zGt, n_zGe, n_inb, n32_clamp, hk, h.T.t, h.T.r28, h.T.t8, e1]
        exact skip (fun z => by have := q1.mpr z.1; rw [e1] at this; cases this)
      · cases e2 : i2z (vi m (X + 7) (n * 900 + r * 100 + k))
        · simp (disch := omega) only [hR_d, hT_d, hI_t, hI_f, hVI_s, hVL_s, hVR_s, hVT_s, hVV_s, hO_s, hB_0, hB_1, hB_2, hB_r, hU_0, hU_1, hU_2, hU_r, hX_r, hL_0, hL_1, hL_2, hL_r, hC_s, h_k0, h_k1, h_k2, h_k3, h_k4, h_k5, h_k6, h_k7, h_k8, h_k9, h_k10, h_k11, h_k12, h_k14, h_k16, h_k18, h_k20, h_k23, h_k24, h_k25, h_k32, h_k44, h_k48, h_k50, h_k54, h_k57, h_k58, h_k59, h_k60, h_k63, h_k97, h_k100, h_k122, h_k177, h_k255, h_k400, h_k450, h_k625, h_k649, h_k708, h_k800, h_k900, h_k2500, h_k22500, h_k45000, h_kn1, h_kn2, h_kJ, h_kU, h_eI, h_eL, h_eR, h_eT, h_b1, h_eZ, h_not, h_b2, h_b0, h_b0L, h_gI, h_gL, h_gN, h_gR, h_aI, h_aL, h_aR, h_aLen, h_tern, h_and, h_or, h_vN, h_vI, h_vJ, h_vA, h_cFv, h_cFs, h_toI, h_toL, h_toV, h_nO, h_nA, g_skip, g_brk, g_cnt, g_retV, g_seq, g_if, g_setI, g_setR, g_setL, g_inc, g_putI, g_putZ, g_putL, g_putR, g_upI, g_AI, g_AL, g_AR, g_UA, g_exp, g_retI, g_retL, g_retZ, g_scope, g_unBrk, g_sup, h_fn, argE_n, argE_i, argE_r, argE_l, argE_a, sto_0, sto_s, sto_n0, sto_ns, isL_i, isL_r, isL_n, isL_a, isL_l, isL_0, rcv_r, rcv_a, List.getElem?_cons_zero, List.getElem?_cons_succ, List.getElem?_nil, List.set_cons_zero, List.set_cons_succ, List.take_succ_cons, List.take_zero, List.take_nil, List.length_cons, List.length_nil, List.nil_append, List.cons_append, Nat.reduceAdd, Nat.reduceSub, Nat.reduceLT, Nat.reduceEqDiff, Nat.reduceLeDiff, Nat.zero_add, Nat.lt_irrefl, Nat.succ_sub_one, and_true, true_and, and_false, false_and, not_false_eq_true, not_true_eq_false, Bool.false_eq_true, Bool.not_true, Bool.not_false, Bool.not_eq_true', Bool.true_eq_false, decide_true, decide_false, decide_eq_true_eq, decide_eq_false_iff_not, Option.some.injEq, and_self, Nat.add_one_sub_one, Nat.lt_add_one, Nat.zero_lt_succ, Value.int.injEq, Value.ref.injEq, Value.long.injEq, exists_eq_left', exists_eq_left, Sum.inl.injEq, Sum.inr.injEq, i2z_b2i, n32_add, n32_mul, n32_inc, n_iEq, n_iNe, n_iLt, n_iLe, n_iGt, n_iGe, n_zEq, n_zLt, n_zLe, n_zGt, n_zGe, n_inb, n32_clamp, hk, h.T.t, h.T.r27, h.T.t7, h.T.r28, h.T.t8, e1, e2]
          exact ⟨by omega, skip (fun z => by have := q2.mpr z.2; rw [e2] at this; cases this)⟩
        · simp (disch := omega) only [hR_d, hT_d, hI_t, hI_f, hVI_s, hVL_s, hVR_s, hVT_s, hVV_s, hO_s, hB_0, hB_1, hB_2, hB_r, hU_0, hU_1, hU_2, hU_r, hX_r, hL_0, hL_1, hL_2, hL_r, hC_s, h_k0, h_k1, h_k2, h_k3, h_k4, h_k5, h_k6, h_k7, h_k8, h_k9, h_k10, h_k11, h_k12, h_k14, h_k16, h_k18, h_k20, h_k23, h_k24, h_k25, h_k32, h_k44, h_k48, h_k50, h_k54, h_k57, h_k58, h_k59, h_k60, h_k63, h_k97, h_k100, h_k122, h_k177, h_k255, h_k400, h_k450, h_k625, h_k649, h_k708, h_k800, h_k900, h_k2500, h_k22500, h_k45000, h_kn1, h_kn2, h_kJ, h_kU, h_eI, h_eL, h_eR, h_eT, h_b1, h_eZ, h_not, h_b2, h_b0, h_b0L, h_gI, h_gL, h_gN, h_gR, h_aI, h_aL, h_aR, h_aLen, h_tern, h_and, h_or, h_vN, h_vI, h_vJ, h_vA, h_cFv, h_cFs, h_toI, h_toL, h_toV, h_nO, h_nA, g_skip, g_brk, g_cnt, g_retV, g_seq, g_if, g_setI, g_setR, g_setL, g_inc, g_putI, g_putZ, g_putL, g_putR, g_upI, g_AI, g_AL, g_AR, g_UA, g_exp, g_retI, g_retL, g_retZ, g_scope, g_unBrk, g_sup, h_fn, argE_n, argE_i, argE_r, argE_l, argE_a, sto_0, sto_s, sto_n0, sto_ns, isL_i, isL_r, isL_n, isL_a, isL_l, isL_0, rcv_r, rcv_a, List.getElem?_cons_zero, List.getElem?_cons_succ, List.getElem?_nil, List.set_cons_zero, List.set_cons_succ, List.take_succ_cons, List.take_zero, List.take_nil, List.length_cons, List.length_nil, List.nil_append, List.cons_append, Nat.reduceAdd, Nat.reduceSub, Nat.reduceLT, Nat.reduceEqDiff, Nat.reduceLeDiff, Nat.zero_add, Nat.lt_irrefl, Nat.succ_sub_one, and_true, true_and, and_false, false_and, not_false_eq_true, not_true_eq_false, Bool.false_eq_true, Bool.not_true, Bool.not_false, Bool.not_eq_true', Bool.true_eq_false, decide_true, decide_false, decide_eq_true_eq, decide_eq_false_iff_not, Option.some.injEq, and_self, Nat.add_one_sub_one, Nat.lt_add_one, Nat.zero_lt_succ, Value.int.injEq, Value.ref.injEq, Value.long.injEq, exists_eq_left', exists_eq_left, Sum.inl.injEq, Sum.inr.injEq, i2z_b2i, n32_add, n32_mul, n32_inc, n_iEq, n_iNe, n_iLt, n_iLe, n_iGt, n_iGe, n_zEq, n_zLt, n_zLe, n_zGt, n_zGe, n_inb, n32_clamp, hk, h.T.t, h.T.r27, h.T.t7, h.T.r28, h.T.t8, e1, e2]
          exact ⟨by omega, rfl, true, rfl, fun _ => ⟨k / 10, k % 10, by omega, by omega, q1.mp e1, q2.mp e2⟩, fun _ => rfl⟩
    · rintro e m ⟨rfl, rfl, J⟩
      simp (disch := omega) only [hR_d, hT_d, hI_t, hI_f, hVI_s, hVL_s, hVR_s, hVT_s, hVV_s, hO_s, hB_0, hB_1, hB_2, hB_r, hU_0, hU_1, hU_2, hU_r, hX_r, hL_0, hL_1, hL_2, hL_r, hC_s, h_k0, h_k1, h_k2, h_k3, h_k4, h_k5, h_k6, h_k7, h_k8, h_k9, h_k10, h_k11, h_k12, h_k14, h_k16, h_k18, h_k20, h_k23, h_k24, h_k25, h_k32, h_k44, h_k48, h_k50, h_k54, h_k57, h_k58, h_k59, h_k60, h_k63, h_k97, h_k100, h_k122, h_k177, h_k255, h_k400, h_k450, h_k625, h_k649, h_k708, h_k800, h_k900, h_k2500, h_k22500, h_k45000, h_kn1, h_kn2, h_kJ, h_kU, h_eI, h_eL, h_eR, h_eT, h_b1, h_eZ, h_not, h_b2, h_b0, h_b0L, h_gI, h_gL, h_gN, h_gR, h_aI, h_aL, h_aR, h_aLen, h_tern, h_and, h_or, h_vN, h_vI, h_vJ, h_vA, h_cFv, h_cFs, h_toI, h_toL, h_toV, h_nO, h_nA, g_skip, g_brk, g_cnt, g_retV, g_seq, g_if, g_setI, g_setR, g_setL, g_inc, g_putI, g_putZ, g_putL, g_putR, g_upI, g_AI, g_AL, g_AR, g_UA, g_exp, g_retI, g_retL, g_retZ, g_scope, g_unBrk, g_sup, h_fn, argE_n, argE_i, argE_r, argE_l, argE_a, sto_0, sto_s, sto_n0, sto_ns, isL_i, isL_r, isL_n, isL_a, isL_l, isL_0, rcv_r, rcv_a, List.getElem?_cons_zero, List.getElem?_cons_succ, List.getElem?_nil, List.set_cons_zero, List.set_cons_succ, List.take_succ_cons, List.take_zero, List.take_nil, List.length_cons, List.length_nil, List.nil_append, List.cons_append, Nat.reduceAdd, Nat.reduceSub, Nat.reduceLT, Nat.reduceEqDiff, Nat.reduceLeDiff, Nat.zero_add, Nat.lt_irrefl, Nat.succ_sub_one, and_true, true_and, and_false, false_and, not_false_eq_true, not_true_eq_false, Bool.false_eq_true, Bool.not_true, Bool.not_false, Bool.not_eq_true', Bool.true_eq_false, decide_true, decide_false, decide_eq_true_eq, decide_eq_false_iff_not, Option.some.injEq, and_self, Nat.add_one_sub_one, Nat.lt_add_one, Nat.zero_lt_succ, Value.int.injEq, Value.ref.injEq, Value.long.injEq, exists_eq_left', exists_eq_left, Sum.inl.injEq, Sum.inr.injEq, i2z_b2i, n32_add, n32_mul, n32_inc, n_iEq, n_iNe, n_iLt, n_iLe, n_iGt, n_iGe, n_zEq, n_zLt, n_zLe, n_zGt, n_zGe, n_inb, n32_clamp]
      refine ⟨rfl, false, rfl, fun z => (by cases z), fun ⟨u, v, z1, z2, z3⟩ => ?_⟩
      have := J (u * 10 + v) (by omega)
      rw [show (u * 10 + v) / 10 = u by omega, show (u * 10 + v) % 10 = v by omega] at this
      exact absurd z3 this
  obtain ⟨w, m, h1, b, rfl, rfl, h2⟩ := h_ex key
  exact ⟨b, h1, h2⟩
theorem m_narrows (h : MC M X C p lo) {n r : Nat} (hn : n ≤ 24) (hr : r < 9) {P : Nat → Nat → Nat → Nat → Prop} {Q : Nat → Nat → Prop} (T : CT M X P) (T2 : LT M X Q) : ∃ M', f_X10_narrows [.ref X, .int (n32 n), .int (n32 r)] M = some (none, M') ∧ Fr (fun a => a = X + 8) M M' ∧ LT M' X (fun u v => Q u v ∧ P n r u v) := by
  have key : hF f_X10_narrows [.ref X, .int (n32 n), .int (n32 r)] M (fun w M' => w = none ∧ Fr (fun a => a = X + 8) M M' ∧ LT M' X (fun u v => Q u v ∧ P n r u v)) () := by
    delta f_X10_narrows b_X10_narrows
    simp only [hR_d, hT_d, hI_t, hI_f, hVI_s, hVL_s, hVR_s, hVT_s, hVV_s, hO_s, hB_0, hB_1, hB_2, hB_r, hU_0, hU_1, hU_2, hU_r, hX_r, hL_0, hL_1, hL_2, hL_r, hC_s, h_k0, h_k1, h_k2, h_k3, h_k4, h_k5, h_k6, h_k7, h_k8, h_k9, h_k10, h_k11, h_k12, h_k14, h_k16, h_k18, h_k20, h_k23, h_k24, h_k25, h_k32, h_k44, h_k48, h_k50, h_k54, h_k57, h_k58, h_k59, h_k60, h_k63, h_k97, h_k100, h_k122, h_k177, h_k255, h_k400, h_k450, h_k625, h_k649, h_k708, h_k800, h_k900, h_k2500, h_k22500, h_k45000, h_kn1, h_kn2, h_kJ, h_kU, h_eI, h_eL, h_eR, h_eT, h_b1, h_eZ, h_not, h_b2, h_b0, h_b0L, h_gI, h_gL, h_gN, h_gR, h_aI, h_aL, h_aR, h_aLen, h_tern, h_and, h_or, h_vN, h_vI, h_vJ, h_vA, h_cFv, h_cFs, h_toI, h_toL, h_toV, h_nO, h_nA, g_skip, g_brk, g_cnt, g_retV, g_seq, g_if, g_setI, g_setR, g_setL, g_inc, g_putI, g_putZ, g_putL, g_putR, g_upI, g_AI, g_AL, g_AR, g_UA, g_exp, g_retI, g_retL, g_retZ, g_scope, g_unBrk, g_sup, h_fn, argE_n, argE_i, argE_r, argE_l, argE_a, sto_0, sto_s, sto_n0, sto_ns, isL_i, isL_r, isL_n, isL_a, isL_l, isL_0, rcv_r, rcv_a, List.getElem?_cons_zero, List.getElem?_cons_succ, List.getElem?_nil, List.set_cons_zero, List.set_cons_succ, List.take_succ_cons, List.take_zero, List.take_nil, List.length_cons, List.length_nil, List.nil_append, List.cons_append, Nat.reduceAdd, Nat.reduceSub, Nat.reduceLT, Nat.reduceEqDiff, Nat.reduceLeDiff, Nat.zero_add, Nat.lt_irrefl, Nat.succ_sub_one, and_true, true_and, and_false, false_and, not_false_eq_true, not_true_eq_false, Bool.false_eq_true, Bool.not_true, Bool.not_false, Bool.not_eq_true', Bool.true_eq_false, decide_true, decide_false, decide_eq_true_eq, decide_eq_false_iff_not, Option.some.injEq, and_self, Nat.add_one_sub_one, Nat.lt_add_one, Nat.zero_lt_succ, Value.int.injEq, Value.ref.injEq, Value.long.injEq, exists_eq_left', exists_eq_left, Sum.inl.injEq, Sum.inr.injEq, i2z_b2i, n32_add, n32_mul, n32_inc]
    refine h_up (fun k e m => e = [.ref X, .int (n32 n), .int (n32 r), .int (n32 k)] ∧ Fr (fun a => a = X + 8) M m ∧ (∀ k', k' < k → (i2z (vi m (X + 8) k') = true ↔ Q (k' / 10) (k' % 10) ∧ P n r (k' / 10) (k' % 10))) ∧ ∀ k', k ≤ k' → vi m (X + 8) k' = vi M (X + 8) k') 100 ⟨rfl, Fr.refl _ _, fun k' hk => by omega, fun k' _ => rfl⟩ ?_ ?_
    · rintro k e m hk ⟨rfl, F, J, J2⟩
      have g := h.eight F
      have q1 := T2.at hk
      have q2 := T.at hn hr hk
      rw [← J2 k (Nat.le_refl _)] at q1
      rw [← F.vi (show ¬ X + 7 = X + 8 by omega)] at q2
      have fin : ∀ b : Bool, (b = true ↔ Q (k / 10) (k % 10) ∧ P n r (k / 10) (k % 10)) → Fr (fun a => a = X + 8) M (pI m (X + 8) k (b2i b)) ∧ (∀ k', k' < k + 1 → (i2z (vi (pI m (X + 8) k (b2i b)) (X + 8) k') = true ↔ Q (k' / 10) (k' % 10) ∧ P n r (k' / 10) (k' % 10))) ∧ ∀ k', k + 1 ≤ k' → vi (pI m (X + 8) k (b2i b)) (X + 8) k' = vi M (X + 8) k' := by
        intro b hb
        refine ⟨F.pI _ _ rfl, fun k' hk' => ?_, fun k' hk' => ?_⟩
        · rw [vi_pI]
          by_cases e : k' = k
          · subst e; rw [if_pos ⟨rfl, rfl⟩, i2z_b2i]; exact hb
          · rw [if_neg (fun z => e z.2)]; exact J k' (by omega)
        · rw [vi_nk (by omega)]; exact J2 k' (by omega)
      cases e1 : i2z (vi m (X + 8) k)
      · simp (disch := omega) only [hR_d, hT_d, hI_t, hI_f, hVI_s, hVL_s, hVR_s, hVT_s, hVV_s, hO_s, hB_0, hB_1, hB_2, hB_r, hU_0, hU_1, hU_2, hU_r, hX_r, hL_0, hL_1, hL_2, hL_r, hC_s, h_k0, h_k1, h_k2, h_k3, h_k4, h_k5, h_k6, h_k7, h_k8, h_k9, h_k10, h_k11, h_k12, h_k14, h_k16, h_k18, h_k20, h_k23, h_k24, h_k25, h_k32, h_k44, h_k48, h_k50, h_k54, h_k57, h_k58, h_k59, h_k60, h_k63, h_k97, h_k100, h_k122, h_k177, h_k255, h_k400, h_k450, h_k625, h_k649, h_k708, h_k800, h_k900, h_k2500, h_k22500, h_k45000, h_kn1, h_kn2, h_kJ, h_kU, h_eI, h_eL, h_eR, h_eT, h_b1, h_eZ, h_not, h_b2, h_b0, h_b0L, h_gI, h_gL, h_gN, h_gR, h_aI, h_aL, h_aR, h_aLen, h_tern, h_and, h_or, h_vN, h_vI, h_vJ, h_vA, h_cFv, h_cFs, h_toI, h_toL, h_toV, h_nO, h_nA, g_skip, g_brk, g_cnt, g_retV, g_seq, g_if, g_setI, g_setR, g_setL, g_inc, g_putI, g_putZ, g_putL, g_putR, g_upI, g_AI, g_AL, g_AR, g_UA, g_exp, g_retI, g_retL, g_retZ, g_scope, g_unBrk, g_sup, h_fn, argE_n, argE_i, argE_r, argE_l, argE_a, sto_0, sto_s, sto_n0, sto_ns, isL_i, isL_r, isL_n, isL_a, isL_l, isL_0, rcv_r, rcv_a, List.getElem?_cons_zero, List.getElem?_cons_succ, List.getElem?_nil, List.set_cons_zero, List.set_cons_succ, List.take_succ_cons, List.take_zero, List.take_nil, List.length_cons, List.length_nil, List.nil_append, List.cons_append, Nat.reduceAdd, Nat.reduceSub, Nat.reduceLT, Nat.reduceEqDiff, Nat.reduceLeDiff, Nat.zero_add, Nat.lt_irrefl, Nat.succ_sub_one, and_true, true_and, and_false, false_and, not_false_eq_true, not_true_eq_false, Bool.false_eq_true, Bool.not_true, Bool.not_false, Bool.not_eq_true', Bool.true_eq_false, decide_true, decide_false, decide_eq_true_eq, decide_eq_false_iff_not, Option.some.injEq, and_self, Nat.add_one_sub_one, Nat.lt_add_one, Nat.zero_lt_succ, Value.int.injEq, Value.ref.injEq, Value.long.injEq, exists_eq_left', exists_eq_left, Sum.inl.injEq, Sum.inr.injEq, i2z_b2i, n32_add, n32_mul, n32_inc, n_iEq, n_iNe, n_iLt, n_iLe, n_iGt, n_iGe, n_zEq, n_zLt, n_zLe, n_zGt, n_zGe, n_inb, n32_clamp, hk, g.T.t, g.T.r28, g.T.t8, e1, nar, b2i_and1, Nat.reduceEqDiff, if_false, if_true]
        exact fin false ⟨fun z => (by cases z), fun z => by have := q1.mpr z.1; rw [e1] at this; cases this⟩
      · simp (disch := omega) only [hR_d, hT_d, hI_t, hI_f, hVI_s, hVL_s, hVR_s, hVT_s, hVV_s, hO_s, hB_0, hB_1, hB_2, hB_r, hU_0, hU_1, hU_2, hU_r, hX_r, hL_0, hL_1, hL_2, hL_r, hC_s, h_k0, h_k1, h_k2, h_k3, h_k4, h_k5, h_k6, h_k7, h_k8, h_k9, h_k10, h_k11, h_k12, h_k14, h_k16, h_k18, h_k20, h_k23, h_k24, h_k25, h_k32, h_k44, h_k48, h_k50, h_k54, h_k57, h_k58, h_k59, h_k60, h_k63, h_k97, h_k100, h_k122, h_k177, h_k255, h_k400, h_k450, h_k625, h_k649, h_k708, h_k800, h_k900, h_k2500, h_k22500, h_k45000, h_kn1, h_kn2, h_kJ, h_kU, h_eI, h_eL, h_eR, h_eT, h_b1, h_eZ, h_not, h_b2, h_b0, h_b0L, h_gI, h_gL, h_gN, h_gR, h_aI, h_aL, h_aR, h_aLen, h_tern, h_and, h_or, h_vN, h_vI, h_vJ, h_vA, h_cFv, h_cFs, h_toI, h_toL, h_toV, h_nO, h_nA, g_skip, g_brk, g_cnt, g_retV, g_seq, g_if, g_setI, g_setR, g_setL, g_inc, g_putI, g_putZ, g_putL, g_putR, g_upI, g_AI, g_AL, g_AR, g_UA, g_exp, g_retI, g_retL, g_retZ, g_scope, g_unBrk, g_sup, h_fn, argE_n, argE_i, argE_r, argE_l, argE_a, sto_0, sto_s, sto_n0, sto_ns, isL_i, isL_r, isL_n, isL_a, isL_l, isL_0, rcv_r, rcv_a, List.getElem?_cons_zero, List.getElem?_cons_succ, List.getElem?_nil, List.set_cons_zero, List.set_cons_succ, List.take_succ_cons, List.take_zero, List.take_nil, List.length_cons, List.length_nil, List.nil_append, List.cons_append, Nat.reduceAdd, Nat.reduceSub, Nat.reduceLT, Nat.reduceEqDiff, Nat.reduceLeDiff, Nat.zero_add, Nat.lt_irrefl, Nat.succ_sub_one, and_true, true_and, and_false, false_and, not_false_eq_true, not_true_eq_false, Bool.false_eq_true, Bool.not_true, Bool.not_false, Bool.not_eq_true', Bool.true_eq_false, decide_true, decide_false, decide_eq_true_eq, decide_eq_false_iff_not, Option.some.injEq, and_self, Nat.add_one_sub_one, Nat.lt_add_one, Nat.zero_lt_succ, Value.int.injEq, Value.ref.injEq, Value.long.injEq, exists_eq_left', exists_eq_left, Sum.inl.injEq, Sum.inr.injEq, i2z_b2i, n32_add, n32_mul, n32_inc, n_iEq, n_iNe, n_iLt, n_iLe, n_iGt, n_iGe, n_zEq, n_zLt, n_zLe, n_zGt, n_zGe, n_inb, n32_clamp, hk, g.T.t, g.T.r27, g.T.t7, g.T.r28, g.T.t8, e1, nar, b2i_and1, Nat.reduceEqDiff, if_false, if_true]
        exact ⟨by omega, fin _ ⟨fun z => ⟨q1.mp e1, q2.mp z⟩, fun z => q2.mpr z.2⟩⟩
    · rintro e m ⟨rfl, F, J, J2⟩
      simp (disch := omega) only [hR_d, hT_d, hI_t, hI_f, hVI_s, hVL_s, hVR_s, hVT_s, hVV_s, hO_s, hB_0, hB_1, hB_2, hB_r, hU_0, hU_1, hU_2, hU_r, hX_r, hL_0, hL_1, hL_2, hL_r, hC_s, h_k0, h_k1, h_k2, h_k3, h_k4, h_k5, h_k6, h_k7, h_k8, h_k9, h_k10, h_k11, h_k12, h_k14, h_k16, h_k18, h_k20, h_k23, h_k24, h_k25, h_k32, h_k44, h_k48, h_k50, h_k54, h_k57, h_k58, h_k59, h_k60, h_k63, h_k97, h_k100, h_k122, h_k177, h_k255, h_k400, h_k450, h_k625, h_k649, h_k708, h_k800, h_k900, h_k2500, h_k22500, h_k45000, h_kn1, h_kn2, h_kJ, h_kU, h_eI, h_eL, h_eR, h_eT, h_b1, h_eZ, h_not, h_b2, h_b0, h_b0L, h_gI, h_gL, h_gN, h_gR, h_aI, h_aL, h_aR, h_aLen, h_tern, h_and, h_or, h_vN, h_vI, h_vJ, h_vA, h_cFv, h_cFs, h_toI, h_toL, h_toV, h_nO, h_nA, g_skip, g_brk, g_cnt, g_retV, g_seq, g_if, g_setI, g_setR, g_setL, g_inc, g_putI, g_putZ, g_putL, g_putR, g_upI, g_AI, g_AL, g_AR, g_UA, g_exp, g_retI, g_retL, g_retZ, g_scope, g_unBrk, g_sup, h_fn, argE_n, argE_i, argE_r, argE_l, argE_a, sto_0, sto_s, sto_n0, sto_ns, isL_i, isL_r, isL_n, isL_a, isL_l, isL_0, rcv_r, rcv_a, List.getElem?_cons_zero, List.getElem?_cons_succ, List.getElem?_nil, List.set_cons_zero, List.set_cons_succ, List.take_succ_cons, List.take_zero, List.take_nil, List.length_cons, List.length_nil, List.nil_append, List.cons_append, Nat.reduceAdd, Nat.reduceSub, Nat.reduceLT, Nat.reduceEqDiff, Nat.reduceLeDiff, Nat.zero_add, Nat.lt_irrefl, Nat.succ_sub_one, and_true, true_and, and_false, false_and, not_false_eq_true, not_true_eq_false, Bool.false_eq_true, Bool.not_true, Bool.not_false, Bool.not_eq_true', Bool.true_eq_false, decide_true, decide_false, decide_eq_true_eq, decide_eq_false_iff_not, Option.some.injEq, and_self, Nat.add_one_sub_one, Nat.lt_add_one, Nat.zero_lt_succ, Value.int.injEq, Value.ref.injEq, Value.long.injEq, exists_eq_left', exists_eq_left, Sum.inl.injEq, Sum.inr.injEq, i2z_b2i, n32_add, n32_mul, n32_inc, n_iEq, n_iNe, n_iLt, n_iLe, n_iGt, n_iGe, n_zEq, n_zLt, n_zLe, n_zGt, n_zGe, n_inb, n32_clamp]
      refine ⟨F, fun u v hu hv => ?_⟩
      have := J (u * 10 + v) (by omega)
      rwa [show (u * 10 + v) / 10 = u by omega, show (u * 10 + v) % 10 = v by omega] at this
  obtain ⟨w, m, h1, rfl, h2⟩ := h_ex key
  exact ⟨m, h1, h2⟩
theorem m_passes (h : MC M X C p lo) {r : Nat} (hr : r < pK p) {Q : Nat → Nat → Prop} (T2 : LT M X Q) : ∃ M', f_X10_passes [.ref X, .int (n32 r)] M = some (none, M') ∧ Fr (fun a => a = X + 8) M M' ∧ LT M' X (fun u v => u + tkc p r 0 ≤ 9 ∧ v + tkc p r 1 ≤ 9 ∧ Q (u + tkc p r 0) (v + tkc p r 1)) := by
  have t0 := tkc_le h.O hr 0
  have t1 := tkc_le h.O hr 1
  obtain ⟨a, ha⟩ : ∃ a, a = tkc p r 0 := ⟨_, rfl⟩
  obtain ⟨b, hb⟩ : ∃ b, b = tkc p r 1 := ⟨_, rfl⟩
  have ef : ∀ {m}, MC m X C p lo → f_X10_firstOf [.ref X, .int (n32 r)] m = some (some (.int (n32 a)), m) := fun g => by rw [ha]; exact m_firstOf g hr
  have es : ∀ {m}, MC m X C p lo → f_X10_secondOf [.ref X, .int (n32 r)] m = some (some (.int (n32 b)), m) := fun g => by rw [hb]; exact m_secondOf g hr
  rw [← ha, ← hb]
  have a3 : a ≤ 3 := by rw [ha]; exact t0
  have b3 : b ≤ 3 := by rw [hb]; exact t1
  have key : hF f_X10_passes [.ref X, .int (n32 r)] M (fun w M' => w = none ∧ Fr (fun a => a = X + 8) M M' ∧ LT M' X (fun u v => u + a ≤ 9 ∧ v + b ≤ 9 ∧ Q (u + a) (v + b))) () := by
    delta f_X10_passes b_X10_passes
    simp only [hR_d, hT_d, hI_t, hI_f, hVI_s, hVL_s, hVR_s, hVT_s, hVV_s, hO_s, hB_0, hB_1, hB_2, hB_r, hU_0, hU_1, hU_2, hU_r, hX_r, hL_0, hL_1, hL_2, hL_r, hC_s, h_k0, h_k1, h_k2, h_k3, h_k4, h_k5, h_k6, h_k7, h_k8, h_k9, h_k10, h_k11, h_k12, h_k14, h_k16, h_k18, h_k20, h_k23, h_k24, h_k25, h_k32, h_k44, h_k48, h_k50, h_k54, h_k57, h_k58, h_k59, h_k60, h_k63, h_k97, h_k100, h_k122, h_k177, h_k255, h_k400, h_k450, h_k625, h_k649, h_k708, h_k800, h_k900, h_k2500, h_k22500, h_k45000, h_kn1, h_kn2, h_kJ, h_kU, h_eI, h_eL, h_eR, h_eT, h_b1, h_eZ, h_not, h_b2, h_b0, h_b0L, h_gI, h_gL, h_gN, h_gR, h_aI, h_aL, h_aR, h_aLen, h_tern, h_and, h_or, h_vN, h_vI, h_vJ, h_vA, h_cFv, h_cFs, h_toI, h_toL, h_toV, h_nO, h_nA, g_skip, g_brk, g_cnt, g_retV, g_seq, g_if, g_setI, g_setR, g_setL, g_inc, g_putI, g_putZ, g_putL, g_putR, g_upI, g_AI, g_AL, g_AR, g_UA, g_exp, g_retI, g_retL, g_retZ, g_scope, g_unBrk, g_sup, h_fn, argE_n, argE_i, argE_r, argE_l, argE_a, sto_0, sto_s, sto_n0, sto_ns, isL_i, isL_r, isL_n, isL_a, isL_l, isL_0, rcv_r, rcv_a, List.getElem?_cons_zero, List.getElem?_cons_succ, List.getElem?_nil, List.set_cons_zero, List.set_cons_succ, List.take_succ_cons, List.take_zero, List.take_nil, List.length_cons, List.length_nil, List.nil_append, List.cons_append, Nat.reduceAdd, Nat.reduceSub, Nat.reduceLT, Nat.reduceEqDiff, Nat.reduceLeDiff, Nat.zero_add, Nat.lt_irrefl, Nat.succ_sub_one, and_true, true_and, and_false, false_and, not_false_eq_true, not_true_eq_false, Bool.false_eq_true, Bool.not_true, Bool.not_false, Bool.not_eq_true', Bool.true_eq_false, decide_true, decide_false, decide_eq_true_eq, decide_eq_false_iff_not, Option.some.injEq, and_self, Nat.add_one_sub_one, Nat.lt_add_one, Nat.zero_lt_succ, Value.int.injEq, Value.ref.injEq, Value.long.injEq, exists_eq_left', exists_eq_left, Sum.inl.injEq, Sum.inr.injEq, i2z_b2i, n32_add, n32_mul, n32_inc, h.T.t, h_of (ef h), h_of (es h)]
    refine h_up (fun k e m => e = [.ref X, .int (n32 r), .int (n32 (a * 10 + b)), .int (n32 k)] ∧ Fr (fun a => a = X + 8) M m ∧ (∀ k', k' < k → (i2z (vi m (X + 8) k') = true ↔ (k' / 10 + a ≤ 9 ∧ k' % 10 + b ≤ 9 ∧ Q (k' / 10 + a) (k' % 10 + b)))) ∧ ∀ k', k ≤ k' → vi m (X + 8) k' = vi M (X + 8) k') 100 ⟨rfl, Fr.refl _ _, fun k' hk => by omega, fun k' _ => rfl⟩ ?_ ?_
    · rintro k e m hk ⟨rfl, F, J, J2⟩
      have g := h.eight F
      have d10 : (n32 10 : Int32) ≠ 0 := by decide
      have fin : ∀ z : Bool, (z = true ↔ (k / 10 + a ≤ 9 ∧ k % 10 + b ≤ 9 ∧ Q (k / 10 + a) (k % 10 + b))) → Fr (fun a => a = X + 8) M (pI m (X + 8) k (b2i z)) ∧ (∀ k', k' < k + 1 → (i2z (vi (pI m (X + 8) k (b2i z)) (X + 8) k') = true ↔ (k' / 10 + a ≤ 9 ∧ k' % 10 + b ≤ 9 ∧ Q (k' / 10 + a) (k' % 10 + b)))) ∧ ∀ k', k + 1 ≤ k' → vi (pI m (X + 8) k (b2i z)) (X + 8) k' = vi M (X + 8) k' := by
        intro z hz
        refine ⟨F.pI _ _ rfl, fun k' hk' => ?_, fun k' hk' => ?_⟩
        · rw [vi_pI]
          by_cases e : k' = k
          · subst e; rw [if_pos ⟨rfl, rfl⟩, i2z_b2i]; exact hz
          · rw [if_neg (fun z => e z.2)]; exact J k' (by omega)
        · rw [vi_nk (by omega)]; exact J2 k' (by omega)
      by_cases l1 : k + (a * 10 + b) < 100
      · by_cases l2 : k % 10 + b < 10
        · have q1 := T2.at l1
          rw [← J2 _ (by omega), show (k + (a * 10 + b)) / 10 = k / 10 + a by omega, show (k + (a * 10 + b)) % 10 = k % 10 + b by omega] at q1
          simp (disch := omega) only [hR_d, hT_d, hI_t, hI_f, hVI_s, hVL_s, hVR_s, hVT_s, hVV_s, hO_s, hB_0, hB_1, hB_2, hB_r, hU_0, hU_1, hU_2, hU_r, hX_r, hL_0, hL_1, hL_2, hL_r, hC_s, h_k0, h_k1, h_k2, h_k3, h_k4, h_k5, h_k6, h_k7, h_k8, h_k9, h_k10, h_k11, h_k12, h_k14, h_k16, h_k18, h_k20, h_k23, h_k24, h_k25, h_k32, h_k44, h_k48, h_k50, h_k54, h_k57, h_k58, h_k59, h_k60, h_k63, h_k97, h_k100, h_k122, h_k177, h_k255, h_k400, h_k450, h_k625, h_k649, h_k708, h_k800, h_k900, h_k2500, h_k22500, h_k45000, h_kn1, h_kn2, h_kJ, h_kU, h_eI, h_eL, h_eR, h_eT, h_b1, h_eZ, h_not, h_b2, h_b0, h_b0L, h_gI, h_gL, h_gN, h_gR, h_aI, h_aL, h_aR, h_aLen, h_tern, h_and, h_or, h_vN, h_vI, h_vJ, h_vA, h_cFv, h_cFs, h_toI, h_toL, h_toV, h_nO, h_nA, g_skip, g_brk, g_cnt, g_retV, g_seq, g_if, g_setI, g_setR, g_setL, g_inc, g_putI, g_putZ, g_putL, g_putR, g_upI, g_AI, g_AL, g_AR, g_UA, g_exp, g_retI, g_retL, g_retZ, g_scope, g_unBrk, g_sup, h_fn, argE_n, argE_i, argE_r, argE_l, argE_a, sto_0, sto_s, sto_n0, sto_ns, isL_i, isL_r, isL_n, isL_a, isL_l, isL_0, rcv_r, rcv_a, List.getElem?_cons_zero, List.getElem?_cons_succ, List.getElem?_nil, List.set_cons_zero, List.set_cons_succ, List.take_succ_cons, List.take_zero, List.take_nil, List.length_cons, List.length_nil, List.nil_append, List.cons_append, Nat.reduceAdd, Nat.reduceSub, Nat.reduceLT, Nat.reduceEqDiff, Nat.reduceLeDiff, Nat.zero_add, Nat.lt_irrefl, Nat.succ_sub_one, and_true, true_and, and_false, false_and, not_false_eq_true, not_true_eq_false, Bool.false_eq_true, Bool.not_true, Bool.not_false, Bool.not_eq_true', Bool.true_eq_false, decide_true, decide_false, decide_eq_true_eq, decide_eq_false_iff_not, Option.some.injEq, and_self, Nat.add_one_sub_one, Nat.lt_add_one, Nat.zero_lt_succ, Value.int.injEq, Value.ref.injEq, Value.long.injEq, exists_eq_left', exists_eq_left, Sum.inl.injEq, Sum.inr.injEq, i2z_b2i, n32_add, n32_mul, n32_inc, n_iEq, n_iNe, n_iLt, n_iLe, n_iGt, n_iGe, n_zEq, n_zLt, n_zLe, n_zGt, n_zGe, n_inb, n32_clamp, hk, g.T.t, l1, rm10 ⟨k, hk⟩, d10, ne_eq, h_of (es g), l2, g.T.r28, g.T.t8, nar, b2i_and1, Nat.reduceEqDiff, if_false, if_true]
          exact fin _ ⟨fun z => ⟨by omega, by omega, q1.mp z⟩, fun z => q1.mpr z.2.2⟩
        · simp (disch := omega) only [hR_d, hT_d, hI_t, hI_f, hVI_s, hVL_s, hVR_s, hVT_s, hVV_s, hO_s, hB_0, hB_1, hB_2, hB_r, hU_0, hU_1, hU_2, hU_r, hX_r, hL_0, hL_1, hL_2, hL_r, hC_s, h_k0, h_k1, h_k2, h_k3, h_k4, h_k5, h_k6, h_k7, h_k8, h_k9, h_k10, h_k11, h_k12, h_k14, h_k16, h_k18, h_k20, h_k23, h_k24, h_k25, h_k32, h_k44, h_k48, h_k50, h_k54, h_k57, h_k58, h_k59, h_k60, h_k63, h_k97, h_k100, h_k122, h_k177, h_k255, h_k400, h_k450, h_k625, h_k649, h_k708, h_k800, h_k900, h_k2500, h_k22500, h_k45000, h_kn1, h_kn2, h_kJ, h_kU, h_eI, h_eL, h_eR, h_eT, h_b1, h_eZ, h_not, h_b2, h_b0, h_b0L, h_gI, h_gL, h_gN, h_gR, h_aI, h_aL, h_aR, h_aLen, h_tern, h_and, h_or, h_vN, h_vI, h_vJ, h_vA, h_cFv, h_cFs, h_toI, h_toL, h_toV, h_nO, h_nA, g_skip, g_brk, g_cnt, g_retV, g_seq, g_if, g_setI, g_setR, g_setL, g_inc, g_putI, g_putZ, g_putL, g_putR, g_upI, g_AI, g_AL, g_AR, g_UA, g_exp, g_retI, g_retL, g_retZ, g_scope, g_unBrk, g_sup, h_fn, argE_n, argE_i, argE_r, argE_l, argE_a, sto_0, sto_s, sto_n0, sto_ns, isL_i, isL_r, isL_n, isL_a, isL_l, isL_0, rcv_r, rcv_a, List.getElem?_cons_zero, List.getElem?_cons_succ, List.getElem?_nil, List.set_cons_zero, List.set_cons_succ, List.take_succ_cons, List.take_zero, List.take_nil, List.length_cons, List.length_nil, List.nil_append, List.cons_append, Nat.reduceAdd, Nat.reduceSub, Nat.reduceLT, Nat.reduceEqDiff, Nat.reduceLeDiff, Nat.zero_add, Nat.lt_irrefl, Nat.succ_sub_one, and_true, true_and, and_false, false_and, not_false_eq_true, not_true_eq_false, Bool.false_eq_true, Bool.not_true, Bool.not_false, Bool.not_eq_true', Bool.true_eq_false, decide_true, decide_false, decide_eq_true_eq, decide_eq_false_iff_not, Option.some.injEq, and_self, Nat.add_one_sub_one, Nat.lt_add_one, Nat.zero_lt_succ, Value.int.injEq, Value.ref.injEq, Value.long.injEq, exists_eq_left', exists_eq_left, Sum.inl.injEq, Sum.inr.injEq, i2z_b2i, n32_add, n32_mul, n32_inc, n_iEq, n_iNe, n_iLt, n_iLe, n_iGt, n_iGe, n_zEq, n_zLt, n_zLe, n_zGt, n_zGe, n_inb, n32_clamp, hk, g.T.t, l1, rm10 ⟨k, hk⟩, d10, ne_eq, h_of (es g), l2, g.T.r28, g.T.t8, nar, b2i_and1, Nat.reduceEqDiff, if_false, if_true]
          exact fin false ⟨fun z => (by cases z), fun z => by omega⟩
      · simp (disch := omega) only [hR_d, hT_d, hI_t, hI_f, hVI_s, hVL_s, hVR_s, hVT_s, hVV_s, hO_s, hB_0, hB_1, hB_2, hB_r, hU_0, hU_1, hU_2, hU_r, hX_r, hL_0, hL_1, hL_2, hL_r, hC_s, h_k0, h_k1, h_k2, h_k3, h_k4, h_k5, h_k6, h_k7, h_k8, h_k9, h_k10, h_k11, h_k12, h_k14, h_k16, h_k18, h_k20, h_k23, h_k24, h_k25, h_k32, h_k44, h_k48, h_k50, h_k54, h_k57, h_k58, h_k59, h_k60, h_k63, h_k97, h_k100, h_k122, h_k177, h_k255, h_k400, h_k450, h_k625, h_k649, h_k708, h_k800, h_k900, h_k2500, h_k22500, h_k45000, h_kn1, h_kn2, h_kJ, h_kU, h_eI, h_eL, h_eR, h_eT, h_b1, h_eZ, h_not, h_b2, h_b0, h_b0L, h_gI, h_gL, h_gN, h_gR, h_aI, h_aL, h_aR, h_aLen, h_tern, h_and, h_or, h_vN, h_vI, h_vJ, h_vA, h_cFv, h_cFs, h_toI, h_toL, h_toV, h_nO, h_nA, g_skip, g_brk, g_cnt, g_retV, g_seq, g_if, g_setI, g_setR, g_setL, g_inc, g_putI, g_putZ, g_putL, g_putR, g_upI, g_AI, g_AL, g_AR, g_UA, g_exp, g_retI, g_retL, g_retZ, g_scope, g_unBrk, g_sup, h_fn, argE_n, argE_i, argE_r, argE_l, argE_a, sto_0, sto_s, sto_n0, sto_ns, isL_i, isL_r, isL_n, isL_a, isL_l, isL_0, rcv_r, rcv_a, List.getElem?_cons_zero, List.getElem?_cons_succ, List.getElem?_nil, List.set_cons_zero, List.set_cons_succ, List.take_succ_cons, List.take_zero, List.take_nil, List.length_cons, List.length_nil, List.nil_append, List.cons_append, Nat.reduceAdd, Nat.reduceSub, Nat.reduceLT, Nat.reduceEqDiff, Nat.reduceLeDiff, Nat.zero_add, Nat.lt_irrefl, Nat.succ_sub_one, and_true, true_and, and_false, false_and, not_false_eq_true, not_true_eq_false, Bool.false_eq_true, Bool.not_true, Bool.not_false, Bool.not_eq_true', Bool.true_eq_false, decide_true, decide_false, decide_eq_true_eq, decide_eq_false_iff_not, Option.some.injEq, and_self, Nat.add_one_sub_one, Nat.lt_add_one, Nat.zero_lt_succ, Value.int.injEq, Value.ref.injEq, Value.long.injEq, exists_eq_left', exists_eq_left, Sum.inl.injEq, Sum.inr.injEq, i2z_b2i, n32_add, n32_mul, n32_inc, n_iEq, n_iNe, n_iLt, n_iLe, n_iGt, n_iGe, n_zEq, n_zLt, n_zLe, n_zGt, n_zGe, n_inb, n32_clamp, hk, g.T.t, l1, g.T.r28, g.T.t8, nar, b2i_and1, Nat.reduceEqDiff, if_false, if_true]
        exact fin false ⟨fun z => (by cases z), fun z => by omega⟩
    · rintro e m ⟨rfl, F, J, J2⟩
      simp (disch := omega) only [hR_d, hT_d, hI_t, hI_f, hVI_s, hVL_s, hVR_s, hVT_s, hVV_s, hO_s, hB_0, hB_1, hB_2, hB_r, hU_0, hU_1, hU_2, hU_r, hX_r, hL_0, hL_1, hL_2, hL_r, hC_s, h_k0, h_k1, h_k2, h_k3, h_k4, h_k5, h_k6, h_k7, h_k8, h_k9, h_k10, h_k11, h_k12, h_k14, h_k16, h_k18, h_k20, h_k23, h_k24, h_k25, h_k32, h_k44, h_k48, h_k50, h_k54, h_k57, h_k58, h_k59, h_k60, h_k63, h_k97, h_k100, h_k122, h_k177, h_k255, h_k400, h_k450, h_k625, h_k649, h_k708, h_k800, h_k900, h_k2500, h_k22500, h_k45000, h_kn1, h_kn2, h_kJ, h_kU, h_eI, h_eL, h_eR, h_eT, h_b1, h_eZ, h_not, h_b2, h_b0, h_b0L, h_gI, h_gL, h_gN, h_gR, h_aI, h_aL, h_aR, h_aLen, h_tern, h_and, h_or, h_vN, h_vI, h_vJ, h_vA, h_cFv, h_cFs, h_toI, h_toL, h_toV, h_nO, h_nA, g_skip, g_brk, g_cnt, g_retV, g_seq, g_if, g_setI, g_setR, g_setL, g_inc, g_putI, g_putZ, g_putL, g_putR, g_upI, g_AI, g_AL, g_AR, g_UA, g_exp, g_retI, g_retL, g_retZ, g_scope, g_unBrk, g_sup, h_fn, argE_n, argE_i, argE_r, argE_l, argE_a, sto_0, sto_s, sto_n0, sto_ns, isL_i, isL_r, isL_n, isL_a, isL_l, isL_0, rcv_r, rcv_a, List.getElem?_cons_zero, List.getElem?_cons_succ, List.getElem?_nil, List.set_cons_zero, List.set_cons_succ, List.take_succ_cons, List.take_zero, List.take_nil, List.length_cons, List.length_nil, List.nil_append, List.cons_append, Nat.reduceAdd, Nat.reduceSub, Nat.reduceLT, Nat.reduceEqDiff, Nat.reduceLeDiff, Nat.zero_add, Nat.lt_irrefl, Nat.succ_sub_one, and_true, true_and, and_false, false_and, not_false_eq_true, not_true_eq_false, Bool.false_eq_true, Bool.not_true, Bool.not_false, Bool.not_eq_true', Bool.true_eq_false, decide_true, decide_false, decide_eq_true_eq, decide_eq_false_iff_not, Option.some.injEq, and_self, Nat.add_one_sub_one, Nat.lt_add_one, Nat.zero_lt_succ, Value.int.injEq, Value.ref.injEq, Value.long.injEq, exists_eq_left', exists_eq_left, Sum.inl.injEq, Sum.inr.injEq, i2z_b2i, n32_add, n32_mul, n32_inc, n_iEq, n_iNe, n_iLt, n_iLe, n_iGt, n_iGe, n_zEq, n_zLt, n_zLe, n_zGt, n_zGe, n_inb, n32_clamp]
      refine ⟨F, fun u v hu hv => ?_⟩
      have := J (u * 10 + v) (by omega)
      rwa [show (u * 10 + v) / 10 = u by omega, show (u * 10 + v) % 10 = v by omega] at this
  obtain ⟨w, m, h1, rfl, h2⟩ := h_ex key
  exact ⟨m, h1, h2⟩
end
