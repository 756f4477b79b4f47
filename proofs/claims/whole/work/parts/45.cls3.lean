/-! THE CLASS: calls that change what stands -/
def Out (lo hi : Nat) (M M' : qM) : Prop := M'.1 = M.1 ∧ ∀ a, ¬ (lo ≤ a ∧ a < hi) → tg M' a = tg M a ∧ vr M' a = vr M a ∧ vi M' a = vi M a ∧ vl M' a = vl M a
theorem Out.refl (lo hi : Nat) (M : qM) : Out lo hi M M := ⟨rfl, fun _ _ => ⟨rfl, rfl, rfl, rfl⟩⟩
theorem Out.trans {lo hi : Nat} {M M1 M2 : qM} (h : Out lo hi M M1) (g : Out lo hi M1 M2) : Out lo hi M M2 :=
  ⟨g.1.trans h.1, fun a ha => by
    obtain ⟨a1, a2, a3, a4⟩ := h.2 a ha
    obtain ⟨b1, b2, b3, b4⟩ := g.2 a ha
    exact ⟨b1.trans a1, b2.trans a2, b3.trans a3, b4.trans a4⟩⟩
theorem Fr.out {S : Nat → Prop} {lo hi : Nat} {M M' : qM} (f : Fr S M M') (h : ∀ a, S a → lo ≤ a ∧ a < hi) : Out lo hi M M' :=
  ⟨f.1, fun a ha => ⟨by rw [f.tg], by rw [f.vr], funext fun j => f.vi (fun s => ha (h a s)) j, funext fun j => f.vl (fun s => ha (h a s)) j⟩⟩
/-- only references of cell a change -/
def FrR (a : Nat) (M M' : qM) : Prop := M'.1 = M.1 ∧ tg M' = tg M ∧ vi M' = vi M ∧ vl M' = vl M ∧ ∀ b, b ≠ a → vr M' b = vr M b
theorem FrR.refl (a : Nat) (M : qM) : FrR a M M := ⟨rfl, rfl, rfl, rfl, fun _ _ => rfl⟩
theorem FrR.pR {a : Nat} {M M1 : qM} (h : FrR a M M1) (k : Nat) (x : Option Nat) : FrR a M (pR M1 a k x) :=
  ⟨h.1, h.2.1, h.2.2.1, h.2.2.2.1, fun b hb => by
    rw [← h.2.2.2.2 b hb]
    funext j
    rw [vr_pR, if_neg (fun z => hb z.1)]⟩
theorem FrR.out {a lo hi : Nat} {M M' : qM} (f : FrR a M M') (h : lo ≤ a ∧ a < hi) : Out lo hi M M' :=
  ⟨f.1, fun b hb => ⟨by rw [f.2.1], f.2.2.2.2 b (fun e => hb (e ▸ h)), by rw [f.2.2.1], by rw [f.2.2.2.1]⟩⟩
/-- the best meeting's cells are as they were -/
def BK (M M' : qM) (B : Nat) : Prop := ∀ a, B + 54 ≤ a → a ≤ B + 56 → vi M' a = vi M a
theorem Fr.bk {S : Nat → Prop} {M M' : qM} {B : Nat} (f : Fr S M M') (h : ∀ a, S a → ¬ (B + 54 ≤ a ∧ a ≤ B + 56)) : BK M M' B := fun a h1 h2 => funext fun j => f.vi (fun s => h a s ⟨h1, h2⟩) j
def BKn (M M' : qM) (B : Nat) (A A' : Ab) : Prop := (BK M M' B ∧ aPn A' = aPn A ∧ aLm A' = aLm A) ∨ vi M' (B + 54) 8 = n32 0
def CR (M : qM) (B P P2 L L2 : Nat) (A A' : Ab) (M' : qM) : Prop := (∃ ac', Cls M' B P P2 L L2 ac' A') ∧ Out B (B + 140) M M' ∧ BKn M M' B A A'
section
variable {M : qM} {B P P2 L L2 : Nat} {ac : Nat → Nat} {A : Ab}
theorem ClsT.fr {S : Nat → Prop} {M' : qM} (h : ClsT M B P P2 L L2 ac) (f : Fr S M M') : ClsT M' B P P2 L L2 ac := by
  unfold ClsT PlanT LoomT at h ⊢
  rw [f.tg, f.vr]; exact h
theorem ScrT.fr {S : Nat → Prop} {M' : qM} (h : ScrT M B) (f : Fr S M M') : ScrT M' B := by
  unfold ScrT at h ⊢
  rw [f.tg, f.vr]; exact h
/-- where things lie -/
theorem ClsT.pl (h : ClsT M B P P2 L L2 ac) : (P = B + 4 ∨ P = B + 25) ∧ (L = B + 17 ∨ L = B + 38) := by
  rcases h.dP with ⟨a, -⟩ | ⟨a, -⟩ <;> rcases h.dL with ⟨b, -⟩ | ⟨b, -⟩ <;> exact ⟨by omega, by omega⟩
theorem ClsT.ai (h : ClsT M B P P2 L L2 ac) {i : Nat} (hi : i < 12) : B + 65 ≤ ac i ∧ ac i + 4 < B + 125 := by
  obtain ⟨k, hk, e⟩ := h.da i hi
  omega
theorem ClsT.aj (h : ClsT M B P P2 L L2 ac) {i j : Nat} (hi : i < 12) (hj : j < 12) (hne : i ≠ j) : ac i + 4 < ac j ∨ ac j + 4 < ac i := by
  obtain ⟨k, hk, e⟩ := h.da i hi
  obtain ⟨k', hk', e'⟩ := h.da j hj
  have : k ≠ k' := fun z => hne (h.di i j hi hj (by rw [e, e', z]))
  omega
theorem q_granted (h : ClsT M B P P2 L L2 ac) : f_X8_granted [.ref B] M = some (some (.int 1), pI M B 6 (n32 0)) := by
  apply wF_eq
  unfold f_X8_granted b_X8_granted
  simp only [w_eK, w_eI, w_eL, w_eR, w_eT, w_b1, w_b2, w_b0, w_b0L, w_gI, w_gL, w_gN, w_gR, w_aI, w_aL, w_aR, w_aLen, w_tern, w_and, w_or, w_vN, vI, vJ, vA, vS, w_cFv, w_cFs, w_toI, w_toL, w_toV, w_nO, w_nA, eZ, cNot, s_skip, s_brk, s_cnt, s_retV, s_seq, s_if, s_set1, s_setL, s_inc, s_putI, s_putZ, s_putL, s_putR, s_upI, s_AI, s_AL, s_AR, s_UA, s_exp, s_ret, s_retZ, s_scope, s_unBrk, s_sw, s_sup, sSetI, sSetR, sRetI, sRetL, f_of, argE_n, argE_i, argE_r, argE_l, argE_a, sto_0, sto_s, sto_n0, sto_ns, isL_i, isL_r, isL_n, isL_a, isL_l, isL_0, rcv_r, rcv_a, List.getElem?_cons_zero, List.getElem?_cons_succ, List.getElem?_nil, List.set_cons_zero, List.set_cons_succ, List.take_succ_cons, List.take_zero, List.take_nil, List.length_cons, List.length_nil, List.nil_append, List.cons_append, Nat.reduceAdd, Nat.reduceSub, Nat.reduceLT, Nat.reduceEqDiff, Nat.reduceLeDiff, Nat.zero_add, Nat.lt_irrefl, Nat.succ_sub_one, and_true, true_and, and_false, false_and, not_false_eq_true, not_true_eq_false, Bool.false_eq_true, if_true, if_false, reduceIte, decide_true, decide_false, decide_eq_true_eq, Option.some.injEq, and_self, Nat.add_one_sub_one, Nat.lt_add_one, Nat.zero_lt_succ, Value.int.injEq, Value.ref.injEq, Value.long.injEq, exists_eq_left', exists_eq_left, Sum.inl.injEq, Sum.inr.injEq, l_0, h.t]
  rfl
theorem q_denied (h : ClsT M B P P2 L L2 ac) (t : Int32) : f_X8_denied [.ref B, .int t] M = some (some (.int 0), pI M B 6 t) := by
  apply wF_eq
  unfold f_X8_denied b_X8_denied
  simp only [w_eK, w_eI, w_eL, w_eR, w_eT, w_b1, w_b2, w_b0, w_b0L, w_gI, w_gL, w_gN, w_gR, w_aI, w_aL, w_aR, w_aLen, w_tern, w_and, w_or, w_vN, vI, vJ, vA, vS, w_cFv, w_cFs, w_toI, w_toL, w_toV, w_nO, w_nA, eZ, cNot, s_skip, s_brk, s_cnt, s_retV, s_seq, s_if, s_set1, s_setL, s_inc, s_putI, s_putZ, s_putL, s_putR, s_upI, s_AI, s_AL, s_AR, s_UA, s_exp, s_ret, s_retZ, s_scope, s_unBrk, s_sw, s_sup, sSetI, sSetR, sRetI, sRetL, f_of, argE_n, argE_i, argE_r, argE_l, argE_a, sto_0, sto_s, sto_n0, sto_ns, isL_i, isL_r, isL_n, isL_a, isL_l, isL_0, rcv_r, rcv_a, List.getElem?_cons_zero, List.getElem?_cons_succ, List.getElem?_nil, List.set_cons_zero, List.set_cons_succ, List.take_succ_cons, List.take_zero, List.take_nil, List.length_cons, List.length_nil, List.nil_append, List.cons_append, Nat.reduceAdd, Nat.reduceSub, Nat.reduceLT, Nat.reduceEqDiff, Nat.reduceLeDiff, Nat.zero_add, Nat.lt_irrefl, Nat.succ_sub_one, and_true, true_and, and_false, false_and, not_false_eq_true, not_true_eq_false, Bool.false_eq_true, if_true, if_false, reduceIte, decide_true, decide_false, decide_eq_true_eq, Option.some.injEq, and_self, Nat.add_one_sub_one, Nat.lt_add_one, Nat.zero_lt_succ, Value.int.injEq, Value.ref.injEq, Value.long.injEq, exists_eq_left', exists_eq_left, Sum.inl.injEq, Sum.inr.injEq, h.t]
  rfl
/-- trouble -/
theorem Cls.tr (h : Cls M B P P2 L L2 ac A) {t : Nat} (ht : t ≤ 6) (h4 : t ≠ 4) : Cls (pI M B 6 (n32 t)) B P P2 L L2 ac (setTr A t) := by
  have f : Fr (fun a => a = B) M (pI M B 6 (n32 t)) := (Fr.refl _ M).pI 6 _ rfl
  have hpl := h.T.pl
  refine ⟨h.T.fr f, h.S.fr f, ⟨?_, vi_self _ _ _ _, ht, ?_, h.V.nac12, ?_, h.V.nmk3, ?_, h.V.tl9, fun i hi => ?_, ?_, fun e => absurd e h4, h.V.P.fr f (fun a h1 h2 e => ?_), h.V.L.fr f (fun a h1 h2 e => ?_), fun i lo hi => (h.V.ac i lo hi).fr f (fun a h1 h2 e => ?_), fun i lo hi => (h.V.mk i lo hi).fr f (fun a h1 h2 e => ?_)⟩⟩
  · rw [vi_nk (by decide)]; exact h.V.told
  · rw [vi_nk (by decide)]; exact h.V.nac
  · rw [vi_nk (by decide)]; exact h.V.nmk
  · rw [vi_nk (by decide)]; exact h.V.tl
  · rw [vi_ne (by omega)]; exact h.V.tp i hi
  · rw [vi_ne (by omega)]; exact h.V.ft
  · omega
  · omega
  · have hi' : i < (aAc A).length := (List.getElem?_eq_some_iff.mp hi).1
    have := h.T.ai (show i < 12 by have := h.V.nac12; omega)
    omega
  · omega
theorem CR.ro (h : Cls M B P P2 L L2 ac A) {t : Nat} (ht : t ≤ 6) (h4 : t ≠ 4) : CR M B P P2 L L2 A (setTr A t) (pI M B 6 (n32 t)) := by
  have f : Fr (fun a => a = B) M (pI M B 6 (n32 t)) := (Fr.refl _ M).pI 6 _ rfl
  exact ⟨⟨ac, h.tr ht h4⟩, f.out (fun a e => by subst e; omega), Or.inl ⟨f.bk (fun a e => by subst e; omega), rfl, rfl⟩⟩
theorem q_forget (S : ScrT M B) : f_X0_forget [.ref (B + 54)] M = some (none, pI M (B + 54) 8 (n32 0)) := by
  apply wF_eq
  unfold f_X0_forget b_X0_forget
  simp only [w_eK, w_eI, w_eL, w_eR, w_eT, w_b1, w_b2, w_b0, w_b0L, w_gI, w_gL, w_gN, w_gR, w_aI, w_aL, w_aR, w_aLen, w_tern, w_and, w_or, w_vN, vI, vJ, vA, vS, w_cFv, w_cFs, w_toI, w_toL, w_toV, w_nO, w_nA, eZ, cNot, s_skip, s_brk, s_cnt, s_retV, s_seq, s_if, s_set1, s_setL, s_inc, s_putI, s_putZ, s_putL, s_putR, s_upI, s_AI, s_AL, s_AR, s_UA, s_exp, s_ret, s_retZ, s_scope, s_unBrk, s_sw, s_sup, sSetI, sSetR, sRetI, sRetL, f_of, argE_n, argE_i, argE_r, argE_l, argE_a, sto_0, sto_s, sto_n0, sto_ns, isL_i, isL_r, isL_n, isL_a, isL_l, isL_0, rcv_r, rcv_a, List.getElem?_cons_zero, List.getElem?_cons_succ, List.getElem?_nil, List.set_cons_zero, List.set_cons_succ, List.take_succ_cons, List.take_zero, List.take_nil, List.length_cons, List.length_nil, List.nil_append, List.cons_append, Nat.reduceAdd, Nat.reduceSub, Nat.reduceLT, Nat.reduceEqDiff, Nat.reduceLeDiff, Nat.zero_add, Nat.lt_irrefl, Nat.succ_sub_one, and_true, true_and, and_false, false_and, not_false_eq_true, not_true_eq_false, Bool.false_eq_true, if_true, if_false, reduceIte, decide_true, decide_false, decide_eq_true_eq, Option.some.injEq, and_self, Nat.add_one_sub_one, Nat.lt_add_one, Nat.zero_lt_succ, Value.int.injEq, Value.ref.injEq, Value.long.injEq, exists_eq_left', exists_eq_left, Sum.inl.injEq, Sum.inr.injEq, l_0, S.t54]
  exact rfl
def keepL (l : List Lo) (lo : Lo) : List Lo := (if 12 ≤ l.length then l.tail else l) ++ [lo]
theorem keepL_len {l : List Lo} (lo : Lo) (h : l.length ≤ 12) : (keepL l lo).length ≤ 12 := by
  unfold keepL
  split
  · simp; omega
  · simp; omega
/-- the acts' rows turned by one -/
theorem ClsT.turn {M1 : qM} (h : ClsT M B P P2 L L2 ac) (f : FrR (B + 43) M M1) (hv : ∀ k, k < 12 → vr M1 (B + 43) k = some (if k < 11 then ac (k + 1) else ac 0)) : ClsT M1 B P P2 L L2 (fun k => if k < 11 then ac (k + 1) else ac 0) := by
  have hpl := h.pl
  have hP2 : P2 = B + 4 ∨ P2 = B + 25 := by rcases h.dP with ⟨-, a⟩ | ⟨-, a⟩ <;> omega
  have hL2 : L2 = B + 17 ∨ L2 = B + 38 := by rcases h.dL with ⟨-, a⟩ | ⟨-, a⟩ <;> omega
  have pt : ∀ q, q ≠ B + 43 → PlanT M q → PlanT M1 q := fun q hq hp => by
    unfold PlanT at hp ⊢
    rw [f.2.1, f.2.2.2.2 q hq]; exact hp
  have lt : ∀ q, q ≠ B + 43 → LoomT M q → LoomT M1 q := fun q hq hp => by
    unfold LoomT at hp ⊢
    rw [f.2.1, f.2.2.2.2 q hq]; exact hp
  have e0 := f.2.2.2.2 B (by omega)
  have e2 := f.2.2.2.2 (B + 2) (by omega)
  have e44 := f.2.2.2.2 (B + 44) (by omega)
  refine ⟨by rw [f.2.1]; exact h.t, by rw [e0]; exact h.r0, by rw [e0]; exact h.r2, by rw [e0]; exact h.r3, by rw [e0]; exact h.r4, by rw [e0]; exact h.r7, by rw [e0]; exact h.r9, by rw [e0]; exact h.r11, by rw [e0]; exact h.r12, by rw [e0]; exact h.r13, by rw [e0]; exact h.r14, by rw [f.2.1]; exact h.t1, by rw [f.2.1]; exact h.t2, by rw [e2]; exact h.q8, by rw [e2]; exact h.q9, by rw [e2]; exact h.q10, by rw [e2]; exact h.q11, by rw [e2]; exact h.q12, by rw [f.2.1]; exact h.t22, by rw [f.2.1]; exact h.t23, by rw [f.2.1]; exact h.t24, pt P (by omega) h.T1, pt P2 (by omega) h.T2, lt L (by omega) h.T3, lt L2 (by omega) h.T4, by rw [f.2.1]; exact h.t43, by rw [f.2.1]; exact h.t44, hv, fun i hi => ?_, by rw [e44]; exact h.rm, fun i hi => lt _ (by omega) (h.Tm i hi), h.dP, h.dL, fun i hi => ?_, fun i j hi hj e => ?_⟩
  · dsimp only
    split
    · have := h.ai (show i + 1 < 12 by omega)
      exact lt _ (by omega) (h.Ta _ (by omega))
    · have := h.ai (show 0 < 12 by omega)
      exact lt _ (by omega) (h.Ta _ (by omega))
  · dsimp only
    split
    · exact h.da _ (by omega)
    · exact h.da _ (by omega)
  · dsimp only at e
    split at e <;> split at e
    · have := h.di _ _ (by omega) (by omega) e
      omega
    · have := h.di _ _ (by omega) (by omega) e
      omega
    · have := h.di _ _ (by omega) (by omega) e
      omega
    · omega
theorem ScrT.turn {M1 : qM} (h : ScrT M B) (f : FrR (B + 43) M M1) : ScrT M1 B := by
  unfold ScrT at h ⊢
  rw [f.2.1, f.2.2.2.2 (B + 45) (by omega), f.2.2.2.2 (B + 46) (by omega), f.2.2.2.2 (B + 54) (by omega), f.2.2.2.2 (B + 57) (by omega), f.2.2.2.2 (B + 61) (by omega)]
  exact h
end
