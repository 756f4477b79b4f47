/-! NEW CELLS: an object and its rows -/
def nwR (C : Nat) (m : qM) (t len j : Nat) : qM := pR (mk1 m t len) C j (some (mN m))
def alc (C : Nat) : List (Nat × Nat × Nat) → qM → qM
  | [], m => m
  | x :: l, m => alc C l (nwR C m x.1 x.2.1 x.2.2)
section
variable {M m : qM} {C t len j : Nat}
theorem mN_mk1 : mN (mk1 m t len) = mN m + 1 := rfl
theorem mU_mk1 : mU (mk1 m t len) = mU m + len := rfl
theorem tg_mk1 (a : Nat) : tg (mk1 m t len) a = if a = mN m then (t, len) else tg m a := rfl
theorem vi_mk1 (a k : Nat) : vi (mk1 m t len) a k = if a = mN m then 0 else vi m a k := rfl
theorem vl_mk1 (a k : Nat) : vl (mk1 m t len) a k = if a = mN m then 0 else vl m a k := rfl
theorem vr_mk1 (a k : Nat) : vr (mk1 m t len) a k = if a = mN m then none else vr m a k := rfl
theorem mN_nwR : mN (nwR C m t len j) = mN m + 1 := rfl
theorem mU_nwR : mU (nwR C m t len j) = mU m + len := rfl
theorem tg_nwR (a : Nat) : tg (nwR C m t len j) a = if a = mN m then (t, len) else tg m a := rfl
theorem vi_nwR (a k : Nat) : vi (nwR C m t len j) a k = if a = mN m then 0 else vi m a k := rfl
theorem vl_nwR (a k : Nat) : vl (nwR C m t len j) a k = if a = mN m then 0 else vl m a k := rfl
theorem vr_nwR (a k : Nat) : vr (nwR C m t len j) a k = if a = C ∧ k = j then some (mN m) else if a = mN m then none else vr m a k := rfl
theorem alc_N : ∀ (l : List (Nat × Nat × Nat)) (m : qM), mN (alc C l m) = mN m + l.length
  | [], m => rfl
  | x :: l, m => by
    show mN (alc C l (nwR C m x.1 x.2.1 x.2.2)) = _
    rw [alc_N l, mN_nwR, List.length_cons]; omega
theorem alc_U : ∀ (l : List (Nat × Nat × Nat)) (m : qM), mU (alc C l m) = mU m + (l.map (fun x => x.2.1)).sum
  | [], m => rfl
  | x :: l, m => by
    show mU (alc C l (nwR C m x.1 x.2.1 x.2.2)) = _
    rw [alc_U l, mU_nwR, List.map_cons, List.sum_cons]; omega
theorem alc_lt : ∀ (l : List (Nat × Nat × Nat)) (m : qM) {a : Nat}, a < mN m → tg (alc C l m) a = tg m a ∧ (∀ k, vi (alc C l m) a k = vi m a k) ∧ (∀ k, vl (alc C l m) a k = vl m a k) ∧ (a ≠ C → ∀ k, vr (alc C l m) a k = vr m a k)
  | [], m, a, h => ⟨rfl, fun _ => rfl, fun _ => rfl, fun _ _ => rfl⟩
  | x :: l, m, a, h => by
    obtain ⟨h1, h2, h3, h4⟩ := alc_lt l (nwR C m x.1 x.2.1 x.2.2) (a := a) (by rw [mN_nwR]; omega)
    refine ⟨?_, fun k => ?_, fun k => ?_, fun ha k => ?_⟩
    · show tg (alc C l (nwR C m x.1 x.2.1 x.2.2)) a = _
      rw [h1, tg_nwR, if_neg (by omega)]
    · show vi (alc C l (nwR C m x.1 x.2.1 x.2.2)) a k = _
      rw [h2, vi_nwR, if_neg (by omega)]
    · show vl (alc C l (nwR C m x.1 x.2.1 x.2.2)) a k = _
      rw [h3, vl_nwR, if_neg (by omega)]
    · show vr (alc C l (nwR C m x.1 x.2.1 x.2.2)) a k = _
      rw [h4 ha, vr_nwR, if_neg (fun z => ha z.1), if_neg (by omega)]
theorem alc_0 : ∀ (l : List (Nat × Nat × Nat)) (m : qM) {a : Nat}, mN m ≤ a → a < mN m + l.length → (∀ k, vi (alc C l m) a k = 0) ∧ ∀ k, vl (alc C l m) a k = 0
  | [], m, a, h1, h2 => absurd h2 (by simp; omega)
  | x :: l, m, a, h1, h2 => by
    rw [List.length_cons] at h2
    by_cases e : a = mN m
    · obtain ⟨-, g2, g3, -⟩ := alc_lt (C := C) l (nwR C m x.1 x.2.1 x.2.2) (a := a) (by rw [mN_nwR]; omega)
      refine ⟨fun k => ?_, fun k => ?_⟩
      · show vi (alc C l (nwR C m x.1 x.2.1 x.2.2)) a k = _
        rw [g2, vi_nwR, if_pos e]
      · show vl (alc C l (nwR C m x.1 x.2.1 x.2.2)) a k = _
        rw [g3, vl_nwR, if_pos e]
    · exact alc_0 l (nwR C m x.1 x.2.1 x.2.2) (a := a) (by rw [mN_nwR]; omega) (by rw [mN_nwR]; omega)
theorem alc_tg : ∀ (l : List (Nat × Nat × Nat)) (m : qM) (i : Nat), i < l.length → tg (alc C l m) (mN m + i) = (l.map (fun x => (x.1, x.2.1))).getD i (0, 0)
  | [], m, i, h => absurd h (by simp)
  | x :: l, m, 0, h => by
    show tg (alc C l (nwR C m x.1 x.2.1 x.2.2)) (mN m) = (x.1, x.2.1)
    rw [(alc_lt l (nwR C m x.1 x.2.1 x.2.2) (a := mN m) (by rw [mN_nwR]; omega)).1, tg_nwR, if_pos rfl]
  | x :: l, m, i + 1, h => by
    have := alc_tg l (nwR C m x.1 x.2.1 x.2.2) i (by rw [List.length_cons] at h; omega)
    rw [mN_nwR] at this
    show tg (alc C l (nwR C m x.1 x.2.1 x.2.2)) (mN m + (i + 1)) = (l.map (fun x => (x.1, x.2.1))).getD i (0, 0)
    rw [show mN m + (i + 1) = mN m + 1 + i by omega]
    exact this
def vrL : List (Nat × Nat × Nat) → Nat → Option Nat → Nat → Option Nat
  | [], _, o, _ => o
  | x :: l, b, o, k => vrL l (b + 1) (if k = x.2.2 then some b else o) k
theorem alc_vr : ∀ (l : List (Nat × Nat × Nat)) (m : qM) (k : Nat), C < mN m → vr (alc C l m) C k = vrL l (mN m) (vr m C k) k
  | [], m, k, h => rfl
  | x :: l, m, k, h => by
    show vr (alc C l (nwR C m x.1 x.2.1 x.2.2)) C k = vrL l (mN m + 1) (if k = x.2.2 then some (mN m) else vr m C k) k
    rw [alc_vr l _ k (by rw [mN_nwR]; omega), mN_nwR, vr_nwR]
    by_cases e : k = x.2.2
    · rw [if_pos ⟨rfl, e⟩, if_pos e]
    · rw [if_neg (fun z => e z.2), if_neg e, if_neg (by omega)]
def l9 : List (Nat × Nat × Nat) := [(20, 2, 9), (20, 4, 10), (20, 24, 11), (20, 2, 12), (23, 2, 13), (23, 8, 14), (23, 8, 15), (23, 8, 16), (20, 8, 17), (20, 8, 18), (20, 8, 19), (20, 8, 20), (20, 4, 21), (20, 4, 22), (20, 16, 23), (20, 6, 24), (20, 6, 25), (20, 6, 26), (21, 14, 27), (20, 14, 28), (20, 14, 29)]
theorem h_new {Q : Re → qE → qM → Prop} {k32 : Int32} {o : Nat} (u : Hd (sPutR o j (eR 0) (nA t (eK k32)), Q)) {e : qE} (h0 : e[0]? = some (.ref C)) (hk : k32 = n32 len) (hl : len ≤ 65536) (ht : (tg m C).1 = o) (hC : C < mN m) : hS (sPutR o j (eR 0) (nA t (eK k32))) e m Q u = Q (.inl 0) e (nwR C m t len j) := by
  subst hk
  have c : (n32 len).toNatClampNeg = len := n32_clamp (by omega)
  have n0 : ¬ (n32 len < 0 ∨ 65536 < (n32 len).toNatClampNeg) := by
    rw [c]
    have : iLt (n32 len) (n32 0) = decide (len < 0) := n_iLt (by omega) (by omega)
    rintro (z | z)
    · have z2 : iLt (n32 len) (n32 0) = true := decide_eq_true z
      rw [this] at z2
      exact absurd (of_decide_eq_true z2) (by omega)
    · omega
  show hS (sPutR o j (eR 0) (nA t (eK (n32 len)))) e m Q () = _
  have t1 : (tg (mk1 m t len) C).1 = o := by rw [tg_mk1, if_neg (by omega)]; exact ht
  simp only [hR_d, hT_d, hI_t, hI_f, hVI_s, hVL_s, hVR_s, hVT_s, hVV_s, hO_s, hB_0, hB_1, hB_2, hB_r, hU_0, hU_1, hU_2, hU_r, hX_r, hL_0, hL_1, hL_2, hL_r, hC_s, h_k0, h_k1, h_k2, h_k3, h_k4, h_k5, h_k6, h_k7, h_k8, h_k9, h_k10, h_k11, h_k12, h_k14, h_k16, h_k18, h_k20, h_k23, h_k24, h_k25, h_k32, h_k44, h_k48, h_k50, h_k54, h_k57, h_k58, h_k59, h_k60, h_k63, h_k97, h_k100, h_k122, h_k177, h_k255, h_k400, h_k450, h_k625, h_k649, h_k708, h_k800, h_k900, h_k2500, h_k22500, h_k45000, h_kn1, h_kn2, h_kJ, h_kU, h_eI, h_eL, h_eR, h_eT, h_b1, h_eZ, h_not, h_b2, h_b0, h_b0L, h_gI, h_gL, h_gN, h_gR, h_aI, h_aL, h_aR, h_aLen, h_tern, h_and, h_or, h_vN, h_vI, h_vJ, h_vA, h_cFv, h_cFs, h_toI, h_toL, h_toV, h_nO, h_nA, g_skip, g_brk, g_cnt, g_retV, g_seq, g_if, g_setI, g_setR, g_setL, g_inc, g_putI, g_putZ, g_putL, g_putR, g_upI, g_AI, g_AL, g_AR, g_UA, g_exp, g_retI, g_retL, g_retZ, g_scope, g_unBrk, g_sup, h_fn, argE_n, argE_i, argE_r, argE_l, argE_a, sto_0, sto_s, sto_n0, sto_ns, isL_i, isL_r, isL_n, isL_a, isL_l, isL_0, rcv_r, rcv_a, List.getElem?_cons_zero, List.getElem?_cons_succ, List.getElem?_nil, List.set_cons_zero, List.set_cons_succ, List.take_succ_cons, List.take_zero, List.take_nil, List.length_cons, List.length_nil, List.nil_append, List.cons_append, Nat.reduceAdd, Nat.reduceSub, Nat.reduceLT, Nat.reduceEqDiff, Nat.reduceLeDiff, Nat.zero_add, Nat.lt_irrefl, Nat.succ_sub_one, and_true, true_and, and_false, false_and, not_false_eq_true, not_true_eq_false, Bool.false_eq_true, Bool.not_true, Bool.not_false, Bool.not_eq_true', Bool.true_eq_false, decide_true, decide_false, decide_eq_true_eq, decide_eq_false_iff_not, Option.some.injEq, and_self, Nat.add_one_sub_one, Nat.lt_add_one, Nat.zero_lt_succ, Value.int.injEq, Value.ref.injEq, Value.long.injEq, exists_eq_left', exists_eq_left, Sum.inl.injEq, Sum.inr.injEq, i2z_b2i, h_vS, h_kN, h_eK, h0, c, t1]
  rw [c] at n0
  exact propext ⟨fun z => z.2, fun z => ⟨n0, z⟩⟩
noncomputable def alcS (o : Nat) (r : Sv) : List (Nat × Nat × Nat) → Sv
  | [] => r
  | x :: l => sSeq (sPutR o x.2.2 (eR 0) (nA x.1 (eK (n32 x.2.1)))) (alcS o r l)
theorem h_alc {o : Nat} {r : Sv} {e : qE} (h0 : e[0]? = some (.ref C)) : ∀ (l : List (Nat × Nat × Nat)) (m : qM), (∀ x, x ∈ l → x.2.1 ≤ 65536) → (tg m C).1 = o → C < mN m → ∀ (Q : Re → qE → qM → Prop), hS (alcS o r l) e m Q () = hS r e (alc C l m) Q ()
  | [], m, _, _, _, Q => rfl
  | x :: l, m, hl, ht, hC, Q => by
    show hS (sSeq (sPutR o x.2.2 (eR 0) (nA x.1 (eK (n32 x.2.1)))) (alcS o r l)) e m Q () = hS r e (alc C l (nwR C m x.1 x.2.1 x.2.2)) Q ()
    rw [g_seq, h_new _ h0 rfl (hl x (List.mem_cons_self ..)) ht hC, hB_0]
    exact h_alc h0 l _ (fun y hy => hl y (List.mem_cons_of_mem _ hy)) (by rw [tg_nwR, if_neg (by omega)]; exact ht) (by rw [mN_nwR]; omega) Q
theorem x9_eq : b_X9_init = sSeq sSup (alcS 10 sRetV l9) := rfl
theorem x9_init (ht : tg m C = (10, 30)) (hC : C < mN m) : f_X9_init [.ref C] m = some (none, alc C l9 m) := by
  apply h_eq
  delta f_X9_init
  rw [x9_eq]
  simp only [h_fn, argE_n, argE_r, List.length_cons, List.length_nil, Nat.zero_add, true_and, g_seq, g_sup, hB_0]
  rw [h_alc rfl l9 m (by decide) (by rw [ht]) hC]
  simp only [hR_d, hT_d, hI_t, hI_f, hVI_s, hVL_s, hVR_s, hVT_s, hVV_s, hO_s, hB_0, hB_1, hB_2, hB_r, hU_0, hU_1, hU_2, hU_r, hX_r, hL_0, hL_1, hL_2, hL_r, hC_s, h_k0, h_k1, h_k2, h_k3, h_k4, h_k5, h_k6, h_k7, h_k8, h_k9, h_k10, h_k11, h_k12, h_k14, h_k16, h_k18, h_k20, h_k23, h_k24, h_k25, h_k32, h_k44, h_k48, h_k50, h_k54, h_k57, h_k58, h_k59, h_k60, h_k63, h_k97, h_k100, h_k122, h_k177, h_k255, h_k400, h_k450, h_k625, h_k649, h_k708, h_k800, h_k900, h_k2500, h_k22500, h_k45000, h_kn1, h_kn2, h_kJ, h_kU, h_eI, h_eL, h_eR, h_eT, h_b1, h_eZ, h_not, h_b2, h_b0, h_b0L, h_gI, h_gL, h_gN, h_gR, h_aI, h_aL, h_aR, h_aLen, h_tern, h_and, h_or, h_vN, h_vI, h_vJ, h_vA, h_cFv, h_cFs, h_toI, h_toL, h_toV, h_nO, h_nA, g_skip, g_brk, g_cnt, g_retV, g_seq, g_if, g_setI, g_setR, g_setL, g_inc, g_putI, g_putZ, g_putL, g_putR, g_upI, g_AI, g_AL, g_AR, g_UA, g_exp, g_retI, g_retL, g_retZ, g_scope, g_unBrk, g_sup, h_fn, argE_n, argE_i, argE_r, argE_l, argE_a, sto_0, sto_s, sto_n0, sto_ns, isL_i, isL_r, isL_n, isL_a, isL_l, isL_0, rcv_r, rcv_a, List.getElem?_cons_zero, List.getElem?_cons_succ, List.getElem?_nil, List.set_cons_zero, List.set_cons_succ, List.take_succ_cons, List.take_zero, List.take_nil, List.length_cons, List.length_nil, List.nil_append, List.cons_append, Nat.reduceAdd, Nat.reduceSub, Nat.reduceLT, Nat.reduceEqDiff, Nat.reduceLeDiff, Nat.zero_add, Nat.lt_irrefl, Nat.succ_sub_one, and_true, true_and, and_false, false_and, not_false_eq_true, not_true_eq_false, Bool.false_eq_true, Bool.not_true, Bool.not_false, Bool.not_eq_true', Bool.true_eq_false, decide_true, decide_false, decide_eq_true_eq, decide_eq_false_iff_not, Option.some.injEq, and_self, Nat.add_one_sub_one, Nat.lt_add_one, Nat.zero_lt_succ, Value.int.injEq, Value.ref.injEq, Value.long.injEq, exists_eq_left', exists_eq_left, Sum.inl.injEq, Sum.inr.injEq, i2z_b2i, h_vS, h_kN]
/-- a new cloth -/
theorem new_cloth : ∃ M1, (∀ (e : qE) (Q : Nat → qM → Prop) (u : Hd (nO 10 30 f_X9_init, Q)), hE (nO 10 30 f_X9_init) e M Q u = hR (mN M) M1 Q ()) ∧ mN M1 = mN M + 22 ∧ mU M1 = mU M + 204 ∧ (∀ a, a < mN M → tg M1 a = tg M a ∧ (∀ k, vi M1 a k = vi M a k) ∧ (∀ k, vl M1 a k = vl M a k) ∧ ∀ k, vr M1 a k = vr M a k) ∧ ClothT M1 (mN M) ∧ ∀ a, mN M ≤ a → a ≤ mN M + 21 → (∀ k, vi M1 a k = 0) ∧ ∀ k, vl M1 a k = 0 := by
  have x := x9_init (C := mN M) (m := mk1 M 10 30) (by rw [tg_mk1, if_pos rfl]) (by rw [mN_mk1]; omega)
  refine ⟨alc (mN M) l9 (mk1 M 10 30), fun e Q u => ?_, ?_, ?_, fun a ha => ?_, ?_, fun a h1 h2 => ?_⟩
  · rw [h_nO, h_of x]; simp only [true_and]
  · rw [alc_N, mN_mk1]; rfl
  · rw [alc_U, mU_mk1]; rfl
  · obtain ⟨g1, g2, g3, g4⟩ := alc_lt (C := mN M) l9 (mk1 M 10 30) (a := a) (by rw [mN_mk1]; omega)
    refine ⟨?_, fun k => ?_, fun k => ?_, fun k => ?_⟩
    · rw [g1, tg_mk1, if_neg (by omega)]
    · rw [g2, vi_mk1, if_neg (by omega)]
    · rw [g3, vl_mk1, if_neg (by omega)]
    · rw [g4 (by omega), vr_mk1, if_neg (by omega)]
  · have t0 : tg (alc (mN M) l9 (mk1 M 10 30)) (mN M) = (10, 30) := by rw [(alc_lt (C := mN M) l9 (mk1 M 10 30) (a := mN M) (by rw [mN_mk1]; omega)).1, tg_mk1, if_pos rfl]
    have r := fun k => alc_vr (C := mN M) l9 (mk1 M 10 30) k (by rw [mN_mk1]; omega)
    have tt := fun i hi => alc_tg (C := mN M) l9 (mk1 M 10 30) i hi
    have tt' : ∀ i, i < 21 → tg (alc (mN M) l9 (mk1 M 10 30)) (mN M + (i + 1)) = (l9.map (fun x => (x.1, x.2.1))).getD i (0, 0) := fun i hi => by
      have := tt i hi
      rw [mN_mk1] at this
      rw [show mN M + (i + 1) = mN M + 1 + i by omega]; exact this
    exact ⟨t0, r 9, r 10, r 11, r 12, r 13, r 14, r 15, r 16, r 17, r 18, r 19, r 20, r 21, r 22, r 23, r 24, r 25, r 26, r 27, r 28, r 29, tt' 0 (by decide), tt' 1 (by decide), tt' 2 (by decide), tt' 3 (by decide), tt' 4 (by decide), tt' 5 (by decide), tt' 6 (by decide), tt' 7 (by decide), tt' 8 (by decide), tt' 9 (by decide), tt' 10 (by decide), tt' 11 (by decide), tt' 12 (by decide), tt' 13 (by decide), tt' 14 (by decide), tt' 15 (by decide), tt' 16 (by decide), tt' 17 (by decide), tt' 18 (by decide), tt' 19 (by decide), tt' 20 (by decide)⟩
  · by_cases e : a = mN M
    · obtain ⟨-, g2, g3, -⟩ := alc_lt (C := mN M) l9 (mk1 M 10 30) (a := a) (by rw [mN_mk1]; omega)
      exact ⟨fun k => by rw [g2, vi_mk1, if_pos e], fun k => by rw [g3, vl_mk1, if_pos e]⟩
    · exact alc_0 l9 (mk1 M 10 30) (by rw [mN_mk1]; omega) (by rw [mN_mk1]; show a < mN M + 1 + 21; omega)
end
