/-! NEW OBJECTS, STATEMENTS, METHODS -/
theorem cT_ty : ∀ (t : Nat) (q : vw_C × (Nat → FieldType)), cT[t]? = some q → ∀ k, k < q.1.2.2 → q.2 k ≠ .float ∧ q.2 k ≠ .double := by
  intro t q h
  match t, h with
  | 0, h => cases h; exact (by decide +kernel : ∀ k, k < 9 → tyX0 k ≠ .float ∧ tyX0 k ≠ .double)
  | 1, h => cases h; exact (by decide +kernel : ∀ k, k < 4 → tyX1 k ≠ .float ∧ tyX1 k ≠ .double)
  | 2, h => cases h; exact (by decide +kernel : ∀ k, k < 3 → tyX2 k ≠ .float ∧ tyX2 k ≠ .double)
  | 3, h => cases h; exact (by decide +kernel : ∀ k, k < 5 → tyX3 k ≠ .float ∧ tyX3 k ≠ .double)
  | 4, h => cases h; exact (by decide +kernel : ∀ k, k < 20 → tyX4 k ≠ .float ∧ tyX4 k ≠ .double)
  | 5, h => cases h; exact (by decide +kernel : ∀ k, k < 20 → tyX5 k ≠ .float ∧ tyX5 k ≠ .double)
  | 6, h => cases h; exact (by decide +kernel : ∀ k, k < 3 → tyX6 k ≠ .float ∧ tyX6 k ≠ .double)
  | 7, h => cases h; exact (by decide +kernel : ∀ k, k < 5 → tyX7 k ≠ .float ∧ tyX7 k ≠ .double)
  | 8, h => cases h; exact (by decide +kernel : ∀ k, k < 15 → tyX8 k ≠ .float ∧ tyX8 k ≠ .double)
  | 9, h => cases h; exact (by decide +kernel : ∀ k, k < 30 → tyX9 k ≠ .float ∧ tyX9 k ≠ .double)
  | 10, h => cases h; exact (by decide +kernel : ∀ k, k < 33 → tyX10 k ≠ .float ∧ tyX10 k ≠ .double)
  | t + 11, h => simp [cT] at h
section RS
variable {G : qG} {K : qK}
theorem xcTern {d d1 d2 pc p1 p2 pt pf : Nat} {c a a' : Ev Bool} (hc : XC G K d pc p1 p2 c) (ha : XC G K d1 p1 pt pf a) (ha' : XC G K d2 p2 pt pf a') : XC G K (max d (max d1 d2)) pc pt pf (tern c a a') := by
  refine ⟨fun env M x M' h => ?_, ?_⟩
  · obtain ⟨r, h1, h2⟩ := bnd h
    have a1 := hc.1 env M r.1 r.2 h1
    split at h2
    · have a2 := ha.1 env r.2 x M' h2
      exact ⟨by omega, by omega⟩
    · have a2 := ha'.1 env r.2 x M' h2
      exact ⟨by omega, by omega⟩
  · intro w mt b vF MF hm env M x M' hf hn hu st ls H locs cells slots hst hl ho kk
    obtain ⟨r, h1, h2⟩ := bnd hf
    split at h2
    · rename_i hr
      have a2 := ha.1 env r.2 x M' h2
      refine hc.2 w mt b vF MF hm env M r.1 r.2 h1 (by omega) (by omega) st ls H locs cells slots (by omega) hl ho (fun H' l' c' s' o' => ?_)
      rw [if_pos hr]
      exact ha.2 w mt b vF MF hm env r.2 x M' h2 hn hu st ls H' l' c' s' (by omega) hl o' kk
    · rename_i hr
      have a2 := ha'.1 env r.2 x M' h2
      refine hc.2 w mt b vF MF hm env M r.1 r.2 h1 (by omega) (by omega) st ls H locs cells slots (by omega) hl ho (fun H' l' c' s' o' => ?_)
      rw [if_neg hr]
      exact ha'.2 w mt b vF MF hm env r.2 x M' h2 hn hu st ls H' l' c' s' (by omega) hl o' kk
theorem x_nO0 {pc ic ix t : Nat} {q : vw_C × (Nat → FieldType)} {F : Fn} {K' : qK} (hK' : CK G K' F) (hd0 : decode (kC K) pc = .ok (.new ic, 3)) (hd1 : decode (kC K) (pc + 3) = .ok (.dup, 1)) (hd2 : decode (kC K) (pc + 4) = .ok (.invokespecial ix, 3)) (hq : cT[t]? = some q) (hcl : Cond.classLink (kY K).cls ic q.1.1 ∈ TBL) (hins : Cond.instantiable q.1.1 q.1.2.2 ∈ TBL) (hl1 : lkM (kY K).cls ix (kY K')) (hc : lkC K' 0) (hy : (kY K').name = "<init>") (hyc : (kY K').cls = q.1.1) (hT : kT K' = none) (hi : Cond.instanceMethod (kY K') ∈ TBL) (hfr : kF K' + 1 ≤ kF K) (hlo : 8 + (kL K' + 11) + kO K' ≤ kO K) : XP G K 1 pc (pc + 7) piA (nO (t + 1) q.1.2.2 F) := by
  have inv : ∀ (env : qE) M x M', nO (t + 1) q.1.2.2 F env M = some (x, M') → x = mN M ∧ F [.ref (mN M)] (mk1 M (t + 1) q.1.2.2) = some (none, M') := by
    intro env M x M' h
    unfold nO at h
    split at h
    · rename_i m hm; cases h; exact ⟨rfl, hm⟩
    · cases h
  refine ⟨fun env M x M' h => ?_, ?_⟩
  · obtain ⟨-, h2⟩ := inv env M x M' h
    have a2 := hK' _ _ _ _ h2
    have b1 : mN (mk1 M (t + 1) q.1.2.2) = mN M + 1 := rfl
    have b2 : mU (mk1 M (t + 1) q.1.2.2) = mU M + q.1.2.2 := rfl
    exact ⟨by omega, by omega⟩
  · intro w mt b vF MF hm env M x M' hf hn hu st ls H locs cells slots hst hl ho kk
    obtain ⟨rfl, h2⟩ := inv env M x M' hf
    have a2 := hK' _ _ _ _ h2
    have b1 : mN (mk1 M (t + 1) q.1.2.2) = mN M + 1 := rfl
    have b2 : mU (mk1 M (t + 1) q.1.2.2) = mU M + q.1.2.2 := rfl
    obtain ⟨o1, o2, o3, o4⟩ := ho
    have hsz := o1.1
    obtain ⟨p, e, R, s, args, below, meth, c, Q, rfl, hx, hb, hml, hown, hK, hnm, hR1, hR2, hR3, hR4, hret⟩ := hm
    have hts : ∀ w ∈ TBL, w.before args s = true := fun w h => hK.word h args
    obtain ⟨hin, hdesc, hnam, hlt⟩ := cT_ok t q hq
    have hKn := hK.2.2.1 t q hq
    refine W.newcK hx hb hown (hts _ hcl) (hts _ hins) (by rw [← hyc]; exact hts _ hc.1) rfl hd0 (by omega) (by omega) hKn.2.1 hsz (fun H1 kC1 hkC e1 z1 q1 => ?_)
    have hr1 : rp G (mk1 M (t + 1) q.1.2.2) H1 := by
      refine o1.mk (by omega) (by rw [z1, hsz]) (fun j hj => q1 j (by omega)) ?_
      have htg : tg (mk1 M (t + 1) q.1.2.2) (mN M) = (t + 1, q.1.2.2) := if_pos rfl
      unfold cOK
      rw [htg, if_pos (by show t + 1 < 20; omega)]
      refine ⟨q, hq, ?_⟩
      refine (u_born q.2 hts hin hKn hkC e1 hdesc).to (fun k hk => ?_)
      have hz := cT_ty t q hq k hk
      unfold fv
      cases hqk : q.2 k <;> first | (exact absurd hqk hz.1) | (exact absurd hqk hz.2) | simp [defaultValue, vi, vl, vr, mk1, mN, va_rf]
    refine lv_dup hx hb hd1 rfl ?_
    obtain ⟨m0, m1, m2, m3, m4, m5, m6, m7, m8, m9, m10⟩ := callPre (args := args) (R := R) hK' h2 hK hc (by rw [hR1]; exact hfr) (by rw [hR2]; exact hlo)
    have hpv : PreS s H1 (PC G [.ref (mN M)] (mk1 M (t + 1) q.1.2.2)) [.ref (mN M)] := ⟨FB, fun U hU hW => ⟨rfl, hK.moved hW, by rw [hU]; exact hr1⟩⟩
    have hrm : cells + 1 + (mN M' - mN (mk1 M (t + 1) q.1.2.2)) ≤ R.cells ∧ slots + q.1.2.2 + (mU M' - mU (mk1 M (t + 1) q.1.2.2)) ≤ R.slots := ⟨by omega, by omega⟩
    have hend : ∀ H2 l2, rp G M' H2 → (∀ q ∈ l2, gB G ≤ q.base) → W p (gl G) e R s mt args below meth c H2 l2 (cells + 1 + (mN M' - mN (mk1 M (t + 1) q.1.2.2))) (slots + q.1.2.2 + (mU M' - mU (mk1 M (t + 1) q.1.2.2))) Q (F0 mt (pc + 4 + 3) ls ((none : Option Value).toList ++ .ref (mN M) :: st)) := by
      intro H2 l2 g1 g2
      exact kk H2 l2 _ _ ⟨g1, g2, by omega, by omega⟩
    have hst8 : wt (.ref (mN M) :: st) ≤ 8 := by
      have : wt (.ref (mN M) :: st) = 1 + wt st := by simp [wt, Value.category]
      omega
    rw [hT] at m6 m7
    rcases hl1 with hlk | ⟨host, hlk⟩
    · exact runW (va_runI (n := 0) (b := mN M) (As := []) (rest := .ref (mN M) :: st) ⟨hx, hb, hml, hown, hts⟩ m0 ⟨⟨m1, m2, m3, m4, m5, m6, m7, m8, m9, m10, hts _ hlk⟩, hy, hts _ hi⟩ hpv rfl rfl hl.1 rfl (lv_room hst8) hd2 hrm) o2 hend
    · exact runW (va_runIN (n := 0) (b := mN M) (As := []) (rest := .ref (mN M) :: st) ⟨hx, hb, hml, hown, hts⟩ m0 ⟨⟨⟨m1, m2, m3, m4, m5, m6⟩, m7, m8, m9, m10, va_Nw.use rfl (hK.2.1 _ hlk)⟩, hy, hts _ hi⟩ hpv rfl rfl hl.1 rfl (lv_room hst8) hd2 hrm) o2 hend
theorem x_nO {pc ic ix t t1 n : Nat} (q : vw_C × (Nat → FieldType)) {F : Fn} {K' : qK} (hK' : CK G K' F) (hd0 : decode (kC K) pc = .ok (.new ic, 3)) (hd1 : decode (kC K) (pc + 3) = .ok (.dup, 1)) (hd2 : decode (kC K) (pc + 4) = .ok (.invokespecial ix, 3)) (ht1 : t + 1 = t1) (hnn : q.1.2.2 = n) (hq : cT[t]? = some q) (hcl : Cond.classLink (kY K).cls ic q.1.1 ∈ TBL) (hins : Cond.instantiable q.1.1 q.1.2.2 ∈ TBL) (hl1 : lkM (kY K).cls ix (kY K')) (hc : lkC K' 0) (hy : (kY K').name = "<init>") (hyc : (kY K').cls = q.1.1) (hT : kT K' = none) (hi : Cond.instanceMethod (kY K') ∈ TBL) (hfr : kF K' + 1 ≤ kF K) (hlo : 8 + (kL K' + 11) + kO K' ≤ kO K) : XP G K 1 pc (pc + 7) piA (nO t1 n F) := by
  subst ht1; subst hnn
  exact x_nO0 hK' hd0 hd1 hd2 hq hcl hins hl1 hc hy hyc hT hi hfr hlo
theorem x_nQ {d pc p1 i : Nat} {a : Ev Int32} (ha : XP G K d pc p1 piI a) (hd : decode (kC K) p1 = .ok (.anewarray i, 3)) (hcl : Cond.classLink (kY K).cls i "TwoWeavers$Loom" ∈ TBL) : XP G K d pc (p1 + 3) piA (nA 24 a) := by
  refine ⟨fun env M x M' h => ?_, ?_⟩
  · obtain ⟨r, h1, h2⟩ := bnd h
    split at h2
    · cases h2
    · cases h2
      have := ha.1 env M r.1 r.2 h1
      exact ⟨Nat.le_succ_of_le this.1, Nat.le_trans this.2 (Nat.le_add_right _ _)⟩
  · intro w mt b vF MF hm env M x M' hf hn hu st ls H locs cells slots hst hl ho kk
    obtain ⟨r, h1, h2⟩ := bnd hf
    split at h2
    · cases h2
    · rename_i hneg
      cases h2
      have hn' : mN r.2 + 1 ≤ mN MF := hn
      have hu' : mU r.2 + r.1.toNatClampNeg ≤ mU MF := hu
      refine ha.2 w mt b vF MF hm env M r.1 r.2 h1 (by omega) (by omega) st ls H locs cells slots hst hl ho (fun H' l' c' s' o' => ?_)
      have hneg' : ¬ r.1 < 0 := fun h => hneg (Or.inl h)
      have hsm : r.1.toNatClampNeg ≤ 65536 := Nat.not_lt.mp fun h => hneg (Or.inr h)
      obtain ⟨o1, o2, o3, o4⟩ := o'
      have hsz := o1.1
      obtain ⟨p, e, R, s, args, below, meth, c, Q, rfl, hx, hb, hml, hown, hK, hnm, hR1, hR2, hR3, hR4, hret⟩ := hm
      refine W.anew hx hb hown (hK.word hcl args) (va_AO.use hK.2.2.2.2.1) rfl hd rfl hneg' (by omega) (by omega) (by omega) (fun cA kA comp f1 f2 f3 f4 => ?_)
      generalize hH1 : H'.push ({ cls := cA, slots := Array.replicate r.1.toNatClampNeg .null, vm := .none } : Cell) = H1
      have z1 : H1.size = H'.size + 1 := by rw [← hH1, Array.size_push]
      have e1 : H1[H'.size]? = some (arrV cA r.1.toNatClampNeg (fun _ => .null)) := by rw [← hH1, Array.getElem?_push_size, ← arrV_new]
      have q1 : ∀ q : Nat, q < H'.size → H1[q]? = H'[q]? := fun q hq => by rw [← hH1, Array.getElem?_push, if_neg (Nat.ne_of_lt hq)]
      have hk := kk H1 l' (c' + 1) (s' + r.1.toNatClampNeg) ⟨?_, o2, by rw [Nat.add_right_comm, o3]; rfl, by rw [Nat.add_right_comm, o4]; rfl⟩
      · have ea : H'.size = mN r.2 := hsz
        rw [ea]; exact hk
      refine o1.mk (by omega) z1 q1 ?_
      have htg : tg (mk1 r.2 24 r.1.toNatClampNeg) (mN r.2) = (24, r.1.toNatClampNeg) := if_pos rfl
      unfold cOK
      rw [htg, if_neg (show ¬ 24 < 20 by decide)]
      refine ⟨Nat.le_refl 24, ?_⟩
      have hcA : gA G 24 = cA := by
        obtain ⟨kA', comp', g1, g2, g3, g4⟩ := (hK.2.2.2.1 24 (by decide) (by decide)).2
        have : aT 24 = .object "TwoWeavers$Loom" := rfl
        exact Option.some.inj (g4.symm.trans f1)
      rw [← hsz, e1, hcA]
      congr 2
      funext j
      simp [aT, fv, vr, mk1, hsz, mN, va_rf]
/-- locals -/
theorem cv_cat (v : Value) : (cv G v).category = v.category := by
  cases v <;> first | rfl | (show (va_rf (gF G)).category = 1; cases gF G <;> rfl)
def lvE (G : qG) (env : qE) : List (Nat × Value) := (env.zipIdx.filter fun q => decide (q.1 ≠ .null)).map fun q => (q.2, cv G q.1)
theorem lvE_mem {env : qE} {q : Nat × Value} : q ∈ lvE G env ↔ ∃ v, env[q.1]? = some v ∧ v ≠ .null ∧ q.2 = cv G v := by
  unfold lvE
  simp only [List.mem_map, List.mem_filter, decide_eq_true_eq]
  constructor
  · rintro ⟨z, ⟨h1, h2⟩, rfl⟩
    exact ⟨z.1, by simpa using List.mem_zipIdx_iff_getElem?.mp h1, h2, rfl⟩
  · rintro ⟨v, h1, h2, h3⟩
    refine ⟨(v, q.1), ⟨List.mem_zipIdx_iff_getElem?.mpr (by simpa using h1), h2⟩, ?_⟩
    rw [← h3]
theorem Lk.has {env : qE} {ls : Array Slot} (h : Lk G K env ls) : lv_has ls (kL K) (lvE G env) := ⟨h.1, h.2.1, fun q hq => by
  obtain ⟨v, h1, h2, h3⟩ := lvE_mem.mp hq
  rw [h3]
  exact h.2.2 q.1 v h1 h2⟩
theorem sto_get {env : qE} {i j : Nat} {v w : Value} (h : (sto env i v)[j]? = some w) : (j = i ∧ w = v) ∨ (j ≠ i ∧ (env[j]? = some w ∨ w = .null)) := by
  unfold sto at h
  split at h
  · rename_i hl
    by_cases hj : j = i
    · subst hj
      rw [List.getElem?_set_self hl] at h
      cases h
      exact Or.inl ⟨rfl, rfl⟩
    · rw [List.getElem?_set_ne (Ne.symm hj)] at h
      exact Or.inr ⟨hj, Or.inl h⟩
  · rename_i hl
    rw [List.append_assoc] at h
    by_cases hj : j < env.length
    · rw [List.getElem?_append_left hj] at h
      exact Or.inr ⟨by omega, Or.inl h⟩
    · rw [List.getElem?_append_right (by omega)] at h
      by_cases hk : j - env.length < i - env.length
      · rw [List.getElem?_append_left (by simpa using hk), List.getElem?_replicate] at h
        rw [if_pos hk] at h
        cases h
        exact Or.inr ⟨by omega, Or.inr rfl⟩
      · rw [List.getElem?_append_right (by simpa using hk)] at h
        simp only [List.length_replicate] at h
        have hz : j - env.length - (i - env.length) < 1 := (List.getElem?_eq_some_iff.mp h).1
        have : j = i := by omega
        subst this
        simp at h
        exact Or.inl ⟨rfl, h.symm⟩
theorem isL_cat {v : Value} (h : v.category = 2) : isL (some v) = true := by cases v <;> first | rfl | (simp [Value.category] at h)
theorem Lk.store1 {env : qE} {ls ls' : Array Slot} {i : Nat} {v : Value} (h : Lk G K env ls) (hi : ¬ (0 < i ∧ isL env[i - 1]? = true)) (h' : lv_has ls' (kL K) ((i, cv G v) :: (lvE G env).filter (fun q => !(q.1 == i) && !(q.1 + 1 == i && q.2.category == 2)))) : Lk G K (sto env i v) ls' := by
  refine ⟨h'.1, h'.2.1, fun j w hw hne => ?_⟩
  rcases sto_get hw with ⟨rfl, rfl⟩ | ⟨hj, hw | hw⟩
  · exact h'.2.2 _ List.mem_cons_self
  · refine h'.2.2 (j, cv G w) (List.mem_cons_of_mem _ (List.mem_filter.mpr ⟨lvE_mem.mpr ⟨w, hw, hne, rfl⟩, ?_⟩))
    simp only [Bool.and_eq_true, Bool.not_eq_true', beq_eq_false_iff_ne, ne_eq, Bool.and_eq_false_iff]
    refine ⟨hj, ?_⟩
    by_cases hji : j + 1 = i
    · right
      rw [cv_cat]
      intro hcat
      refine hi ⟨by omega, ?_⟩
      rw [show i - 1 = j by omega, hw]
      exact isL_cat hcat
    · left; exact hji
  · exact absurd hw hne
theorem Lk.store2 {env : qE} {ls ls' : Array Slot} {i : Nat} {v : Value} (h : Lk G K env ls) (hi : ¬ (0 < i ∧ isL env[i - 1]? = true)) (h' : lv_has ls' (kL K) ((i, cv G v) :: (lvE G env).filter (fun q => !(q.1 == i) && (!(q.1 == i + 1) && !(q.1 + 1 == i && q.2.category == 2))))) : Lk G K (sto (sto env i v) (i + 1) .null) ls' := by
  refine ⟨h'.1, h'.2.1, fun j w hw hne => ?_⟩
  rcases sto_get hw with ⟨rfl, rfl⟩ | ⟨hj1, hw | hw⟩
  · exact absurd rfl hne
  · rcases sto_get hw with ⟨rfl, rfl⟩ | ⟨hj, hw | hw⟩
    · exact h'.2.2 _ List.mem_cons_self
    · refine h'.2.2 (j, cv G w) (List.mem_cons_of_mem _ (List.mem_filter.mpr ⟨lvE_mem.mpr ⟨w, hw, hne, rfl⟩, ?_⟩))
      simp only [Bool.and_eq_true, Bool.not_eq_true', beq_eq_false_iff_ne, ne_eq, Bool.and_eq_false_iff]
      refine ⟨hj, hj1, ?_⟩
      by_cases hji : j + 1 = i
      · right
        rw [cv_cat]
        intro hcat
        refine hi ⟨by omega, ?_⟩
        rw [show i - 1 = j by omega, hw]
        exact isL_cat hcat
      · left; exact hji
    · exact absurd hw hne
  · exact absurd hw hne
theorem ySkip {pc pb pk : Nat} : XS G K pc pc pb pk sSkip := by
  refine ⟨fun env M r env' M' h => ?_, ?_⟩
  · cases h; exact ⟨Nat.le_refl _, Nat.le_refl _⟩
  · intro w mt b vF MF hm env M r env' M' hf hn hu hrt ls H locs cells slots hl ho kk
    cases hf
    exact kk pc rfl ls H locs cells slots hl ho
theorem yBrkAt {pn pb pk : Nat} : XS G K pb pn pb pk sBrk := by
  refine ⟨fun env M r env' M' h => ?_, ?_⟩
  · cases h; exact ⟨Nat.le_refl _, Nat.le_refl _⟩
  · intro w mt b vF MF hm env M r env' M' hf hn hu hrt ls H locs cells slots hl ho kk
    cases hf
    exact kk pb rfl ls H locs cells slots hl ho
theorem yCntAt {pn pb pk : Nat} : XS G K pk pn pb pk sCnt := by
  refine ⟨fun env M r env' M' h => ?_, ?_⟩
  · cases h; exact ⟨Nat.le_refl _, Nat.le_refl _⟩
  · intro w mt b vF MF hm env M r env' M' hf hn hu hrt ls H locs cells slots hl ho kk
    cases hf
    exact kk pk rfl ls H locs cells slots hl ho
theorem yPre {pc p1 pn pb pk : Nat} {off : Int} {a : Sv} (hd : decode (kC K) pc = .ok (.goto off, 3)) (ht : (pc : Int) + off = (p1 : Int)) (ha : XS G K p1 pn pb pk a) : XS G K pc pn pb pk a := by
  refine ⟨ha.1, ?_⟩
  intro w mt b vF MF hm env M r env' M' hf hn hu hrt ls H locs cells slots hl ho kk
  exact go hd ht w mt b vF MF hm [] ls H locs cells slots (ha.2 w mt b vF MF hm env M r env' M' hf hn hu hrt ls H locs cells slots hl ho kk)
theorem yGoto {pc p1 pn pb pk : Nat} {off : Int} {a : Sv} (ha : XS G K pc p1 pb pk a) (hd : decode (kC K) p1 = .ok (.goto off, 3)) (ht : (p1 : Int) + off = (pn : Int)) : XS G K pc pn pb pk a := by
  refine ⟨ha.1, ?_⟩
  intro w mt b vF MF hm env M r env' M' hf hn hu hrt ls H locs cells slots hl ho kk
  refine ha.2 w mt b vF MF hm env M r env' M' hf hn hu hrt ls H locs cells slots hl ho (fun t hex ls' H' l' c' s' hl' o' => ?_)
  match r, hex, kk with
  | .inl 0, hex, kk => cases hex; exact go hd ht w mt b vF MF hm [] ls' H' l' c' s' (kk pn rfl ls' H' l' c' s' hl' o')
  | .inl 1, hex, kk => exact kk t hex ls' H' l' c' s' hl' o'
  | .inl 2, hex, kk => exact kk t hex ls' H' l' c' s' hl' o'
  | .inl (n + 3), hex, kk => cases hex
  | .inr v, hex, kk => cases hex
theorem ySeq {pc p1 pn pb pk : Nat} {a c : Sv} (ha : XS G K pc p1 pb pk a) (hc : XS G K p1 pn pb pk c) : XS G K pc pn pb pk (sSeq a c) := by
  refine ⟨fun env M r env' M' h => ?_, ?_⟩
  · obtain ⟨q, h1, h2⟩ := bnd h
    have a1 := ha.1 env M q.1 q.2.1 q.2.2 h1
    split at h2
    · have a2 := hc.1 _ _ _ _ _ h2
      exact ⟨by omega, by omega⟩
    · cases h2; exact a1
  · intro w mt b vF MF hm env M r env' M' hf hn hu hrt ls H locs cells slots hl ho kk
    obtain ⟨⟨q1, q2, q3⟩, h1, h2⟩ := bnd hf
    match q1, h1, h2 with
    | .inl 0, h1, h2 =>
      have a2 := hc.1 _ _ _ _ _ h2
      dsimp only at a2
      refine ha.2 w mt b vF MF hm env M _ _ _ h1 (by omega) (by omega) (fun v hv => by cases hv) ls H locs cells slots hl ho (fun t hex ls' H' l' c' s' hl' o' => ?_)
      cases hex
      exact hc.2 w mt b vF MF hm _ _ r env' M' h2 hn hu hrt ls' H' l' c' s' hl' o' kk
    | .inl 1, h1, h2 => cases h2; exact ha.2 w mt b vF MF hm env M _ _ _ h1 hn hu hrt ls H locs cells slots hl ho kk
    | .inl 2, h1, h2 => cases h2; exact ha.2 w mt b vF MF hm env M _ _ _ h1 hn hu hrt ls H locs cells slots hl ho kk
    | .inl (n + 3), h1, h2 => cases h2; exact ha.2 w mt b vF MF hm env M _ _ _ h1 hn hu hrt ls H locs cells slots hl ho (fun t hex => by cases hex)
    | .inr v, h1, h2 => cases h2; exact ha.2 w mt b vF MF hm env M _ _ _ h1 hn hu hrt ls H locs cells slots hl ho (fun t hex => by cases hex)
theorem yIf {d pc pt pf pn pb pk : Nat} {c : Ev Bool} {a a' : Sv} (hc : XC G K d pc pt pf c) (hd : d ≤ 8) (ha : XS G K pt pn pb pk a) (ha' : XS G K pf pn pb pk a') : XS G K pc pn pb pk (sIf c a a') := by
  refine ⟨fun env M r env' M' h => ?_, ?_⟩
  · obtain ⟨q, h1, h2⟩ := bnd h
    have a1 := hc.1 env M q.1 q.2 h1
    split at h2
    · have a2 := ha.1 _ _ _ _ _ h2
      exact ⟨by omega, by omega⟩
    · have a2 := ha'.1 _ _ _ _ _ h2
      exact ⟨by omega, by omega⟩
  · intro w mt b vF MF hm env M r env' M' hf hn hu hrt ls H locs cells slots hl ho kk
    obtain ⟨q, h1, h2⟩ := bnd hf
    split at h2
    · rename_i hr
      have a2 := ha.1 _ _ _ _ _ h2
      refine hc.2 w mt b vF MF hm env M q.1 q.2 h1 (by omega) (by omega) [] ls H locs cells slots (by simpa [wt] using hd) hl ho (fun H' l' c' s' o' => ?_)
      rw [if_pos hr]
      exact ha.2 w mt b vF MF hm env q.2 r env' M' h2 hn hu hrt ls H' l' c' s' hl o' kk
    · rename_i hr
      have a2 := ha'.1 _ _ _ _ _ h2
      refine hc.2 w mt b vF MF hm env M q.1 q.2 h1 (by omega) (by omega) [] ls H locs cells slots (by simpa [wt] using hd) hl ho (fun H' l' c' s' o' => ?_)
      rw [if_neg hr]
      exact ha'.2 w mt b vF MF hm env q.2 r env' M' h2 hn hu hrt ls H' l' c' s' hl o' kk
/-- a statement out of one value -/
theorem ys1 {α : Type} {d pc p1 p2 pb pk : Nat} {π : α → List Value} {a : Ev α} {f : Sv} (ha : XP G K d pc p1 π a) (hd : d ≤ 8)
    (hg : ∀ env M r env' M', f env M = some (r, env', M') → ∃ q, a env M = some q ∧ r = .inl 0 ∧ M' = q.2 ∧ ∀ w mt b vF MF, Mx G K w mt b vF MF → ∀ (ls : Array Slot) (H : Heap) (locs : List Loc) (cells slots : Nat), Lk G K env ls → Ok G b q.2 H locs cells slots → (∀ ls' H' locs' cells' slots', Lk G K env' ls' → Ok G b M' H' locs' cells' slots' → w H' locs' cells' slots' (F0 mt p2 ls' [])) → w H locs cells slots (F0 mt p1 ls (π q.1 ++ []))) : XS G K pc p2 pb pk f := by
  refine ⟨fun env M r env' M' h => ?_, ?_⟩
  · obtain ⟨q, h1, h2, h3, -⟩ := hg env M r env' M' h
    have a1 := ha.1 env M q.1 q.2 h1
    rw [h3]; exact a1
  · intro w mt b vF MF hm env M r env' M' hf hn hu hrt ls H locs cells slots hl ho kk
    obtain ⟨q, h1, h2, h3, h4⟩ := hg env M r env' M' hf
    subst h2; subst h3
    exact ha.2 w mt b vF MF hm env M q.1 q.2 h1 hn hu [] ls H locs cells slots (by simpa [wt] using hd) hl ho (fun H' l' c' s' o' => h4 w mt b vF MF hm ls H' l' c' s' hl o' (fun ls' H'' l'' c'' s'' hl' o'' => kk p2 rfl ls' H'' l'' c'' s'' hl' o''))

theorem y_istore_n {d pc p1 pb pk : Nat} {i : Nat} {k : Fin 4} {a : Ev Int32} (ha : XP G K d pc p1 piI a) (hd : decode (kC K) p1 = .ok (.istore_n k, 1)) (hki : (k : Nat) = i) (hi : i < kL K) (h8 : d ≤ 8) : XS G K pc (p1 + 1) pb pk (sSetI i a) := by
  subst hki
  refine ys1 ha h8 (fun env M r env' M' h => ?_)
  obtain ⟨q, h1, h2⟩ := bnd h
  split at h2
  · cases h2
  · rename_i hno
    cases h2
    refine ⟨q, h1, rfl, rfl, fun w mt b vF MF hm ls H locs cells slots hl o kk => ?_⟩
    obtain ⟨p, e, R, s, args, below, meth, c, Q, rfl, hx, hb, hml, hown, hK, hnm, hR1, hR2, hR3, hR4, hret⟩ := hm
    exact lv_istore_n hx hb hd rfl hl.has hi rfl (fun ls' hl' => kk ls' H locs cells slots (hl.store1 hno hl') o)
theorem y_istore {d pc p1 pb pk : Nat} {i : Nat} {a : Ev Int32} (ha : XP G K d pc p1 piI a) (hd : decode (kC K) p1 = .ok (.istore i, 2)) (hi : i < kL K) (h8 : d ≤ 8) : XS G K pc (p1 + 2) pb pk (sSetI i a) := by
  refine ys1 ha h8 (fun env M r env' M' h => ?_)
  obtain ⟨q, h1, h2⟩ := bnd h
  split at h2
  · cases h2
  · rename_i hno
    cases h2
    refine ⟨q, h1, rfl, rfl, fun w mt b vF MF hm ls H locs cells slots hl o kk => ?_⟩
    obtain ⟨p, e, R, s, args, below, meth, c, Q, rfl, hx, hb, hml, hown, hK, hnm, hR1, hR2, hR3, hR4, hret⟩ := hm
    exact lv_istore hx hb hd hl.has hi rfl (fun ls' hl' => kk ls' H locs cells slots (hl.store1 hno hl') o)
theorem y_astore_n {d pc p1 pb pk : Nat} {i : Nat} {k : Fin 4} {a : Ev Nat} (ha : XP G K d pc p1 piA a) (hd : decode (kC K) p1 = .ok (.astore_n k, 1)) (hki : (k : Nat) = i) (hi : i < kL K) (h8 : d ≤ 8) : XS G K pc (p1 + 1) pb pk (sSetR i a) := by
  subst hki
  refine ys1 ha h8 (fun env M r env' M' h => ?_)
  obtain ⟨q, h1, h2⟩ := bnd h
  split at h2
  · cases h2
  · rename_i hno
    cases h2
    refine ⟨q, h1, rfl, rfl, fun w mt b vF MF hm ls H locs cells slots hl o kk => ?_⟩
    obtain ⟨p, e, R, s, args, below, meth, c, Q, rfl, hx, hb, hml, hown, hK, hnm, hR1, hR2, hR3, hR4, hret⟩ := hm
    exact lv_astore_n hx hb hd rfl hl.has hi rfl (fun ls' hl' => kk ls' H locs cells slots (hl.store1 hno hl') o)
theorem y_astore {d pc p1 pb pk : Nat} {i : Nat} {a : Ev Nat} (ha : XP G K d pc p1 piA a) (hd : decode (kC K) p1 = .ok (.astore i, 2)) (hi : i < kL K) (h8 : d ≤ 8) : XS G K pc (p1 + 2) pb pk (sSetR i a) := by
  refine ys1 ha h8 (fun env M r env' M' h => ?_)
  obtain ⟨q, h1, h2⟩ := bnd h
  split at h2
  · cases h2
  · rename_i hno
    cases h2
    refine ⟨q, h1, rfl, rfl, fun w mt b vF MF hm ls H locs cells slots hl o kk => ?_⟩
    obtain ⟨p, e, R, s, args, below, meth, c, Q, rfl, hx, hb, hml, hown, hK, hnm, hR1, hR2, hR3, hR4, hret⟩ := hm
    exact lv_astore hx hb hd hl.has hi rfl (fun ls' hl' => kk ls' H locs cells slots (hl.store1 hno hl') o)
theorem y_lstore_n {d pc p1 pb pk : Nat} {i : Nat} {k : Fin 4} {a : Ev Int64} (ha : XP G K d pc p1 piL a) (hd : decode (kC K) p1 = .ok (.lstore_n k, 1)) (hki : (k : Nat) = i) (hi : i + 1 < kL K) (h8 : d ≤ 8) : XS G K pc (p1 + 1) pb pk (sSetL i a) := by
  subst hki
  refine ys1 ha h8 (fun env M r env' M' h => ?_)
  obtain ⟨q, h1, h2⟩ := bnd h
  split at h2
  · cases h2
  · rename_i hno
    cases h2
    refine ⟨q, h1, rfl, rfl, fun w mt b vF MF hm ls H locs cells slots hl o kk => ?_⟩
    obtain ⟨p, e, R, s, args, below, meth, c, Q, rfl, hx, hb, hml, hown, hK, hnm, hR1, hR2, hR3, hR4, hret⟩ := hm
    exact lv_lstore_n hx hb hd rfl hl.has hi rfl (fun ls' hl' => kk ls' H locs cells slots (hl.store2 hno hl') o)
theorem y_lstore {d pc p1 pb pk : Nat} {i : Nat} {a : Ev Int64} (ha : XP G K d pc p1 piL a) (hd : decode (kC K) p1 = .ok (.lstore i, 2)) (hi : i + 1 < kL K) (h8 : d ≤ 8) : XS G K pc (p1 + 2) pb pk (sSetL i a) := by
  refine ys1 ha h8 (fun env M r env' M' h => ?_)
  obtain ⟨q, h1, h2⟩ := bnd h
  split at h2
  · cases h2
  · rename_i hno
    cases h2
    refine ⟨q, h1, rfl, rfl, fun w mt b vF MF hm ls H locs cells slots hl o kk => ?_⟩
    obtain ⟨p, e, R, s, args, below, meth, c, Q, rfl, hx, hb, hml, hown, hK, hnm, hR1, hR2, hR3, hR4, hret⟩ := hm
    exact lv_lstore hx hb hd hl.has hi rfl (fun ls' hl' => kk ls' H locs cells slots (hl.store2 hno hl') o)
theorem y_iinc {pc pb pk i : Nat} {n : Int} (hd : decode (kC K) pc = .ok (.iinc i n, 3)) (hi : i < kL K) : XS G K pc (pc + 3) pb pk (sInc i n) := by
  have inv : ∀ env M r env' M', sInc i n env M = some (r, env', M') → ∃ x, env[i]? = some (.int x) ∧ r = .inl 0 ∧ env' = env.set i (.int (x + Int32.ofInt n)) ∧ M' = M := by
    intro env M r env' M' h
    unfold sInc at h
    split at h
    · rename_i x hx; cases h; exact ⟨x, hx, rfl, rfl, rfl⟩
    · cases h
  refine ⟨fun env M r env' M' h => ?_, ?_⟩
  · obtain ⟨x, h1, h2, h3, h4⟩ := inv env M r env' M' h
    rw [h4]; exact ⟨Nat.le_refl _, Nat.le_refl _⟩
  · intro w mt b vF MF hm env M r env' M' hf hn hu hrt ls H locs cells slots hl ho kk
    obtain ⟨x, h1, rfl, rfl, rfl⟩ := inv env M r env' M' hf
    have hli := hl.2.2 i (.int x) h1 (by simp)
    have hno : ¬ (0 < i ∧ isL env[i - 1]? = true) := by
      rintro ⟨h0, h2⟩
      cases hv : env[i - 1]? with
      | none => rw [hv] at h2; cases h2
      | some v =>
        rw [hv] at h2
        have hc : v.category = 2 := by cases v <;> first | rfl | cases h2
        have hvn : v ≠ .null := by rintro rfl; cases h2
        have h3 := hl.2.1.1 (i - 1) (cv G v) (hl.2.2 (i - 1) v hv hvn) (by rw [cv_cat]; exact hc)
        rw [show i - 1 + 1 = i by omega, hli] at h3
        cases h3
    have hs : sto env i (.int (x + Int32.ofInt n)) = env.set i (.int (x + Int32.ofInt n)) := by
      unfold sto
      rw [if_pos (List.getElem?_eq_some_iff.mp h1).1]
    have kk' := fun ls' h' => kk (pc + 3) rfl ls' H locs cells slots (hs ▸ hl.store1 (v := .int (x + Int32.ofInt n)) hno h') ho
    have hhas : lv_has ls (kL K) ((i, .int x) :: lvE G env) := ⟨hl.1, hl.2.1, fun q hq => by
      rcases List.mem_cons.mp hq with h | h
      · rw [h]; exact hli
      · exact hl.has.2.2 q h⟩
    obtain ⟨p, e, R, s, args, below, meth, c, Q, rfl, hx, hb, hml, hown, hK, hnm, hR1, hR2, hR3, hR4, hret⟩ := hm
    refine lv_iinc (k := 0) hx hb hd hhas rfl rfl hi rfl (fun ls' hl' => kk' ls' ?_)
    refine ⟨hl'.1, hl'.2.1, fun q hq => hl'.2.2 q ?_⟩
    rcases List.mem_cons.mp hq with h | h
    · rw [h]; exact List.mem_cons_self
    · refine List.mem_cons_of_mem _ (List.mem_filter.mpr ⟨List.mem_cons_of_mem _ (List.mem_filter.mp h).1, (List.mem_filter.mp h).2⟩)
/-- a statement out of two values; the locals stay -/
theorem ys2 {α β : Type} {d1 d2 k pc p1 p2 p3 pb pk : Nat} {π : α → List Value} {ρ : β → List Value} {a : Ev α} {c : Ev β} {f : Sv} (ha : XP G K d1 pc p1 π a) (hπ : ∀ x, wt (π x) ≤ k) (hc : XP G K d2 p1 p2 ρ c) (hd : max d1 (d2 + k) ≤ 8)
    (hg : ∀ env M r env' M', f env M = some (r, env', M') → ∃ x q, a env M = some x ∧ c env x.2 = some q ∧ r = .inl 0 ∧ env' = env ∧ M'.1 = q.2.1 ∧ ∀ w mt b vF MF, Mx G K w mt b vF MF → ∀ (ls : Array Slot) (H : Heap) (locs : List Loc) (cells slots : Nat), Ok G b q.2 H locs cells slots → (∀ H' locs', Ok G b M' H' locs' cells slots → w H' locs' cells slots (F0 mt p3 ls [])) → w H locs cells slots (F0 mt p2 ls (ρ q.1 ++ (π x.1 ++ [])))) : XS G K pc p3 pb pk f := by
  refine ⟨fun env M r env' M' h => ?_, ?_⟩
  · obtain ⟨x, q, h1, h2, h3, h4, h5, -⟩ := hg env M r env' M' h
    have a1 := ha.1 env M x.1 x.2 h1
    have a2 := hc.1 env x.2 q.1 q.2 h2
    have e1 : mN M' = mN q.2 := by show M'.1.1 = q.2.1.1; rw [h5]
    have e2 : mU M' = mU q.2 := by show M'.1.2 = q.2.1.2; rw [h5]
    exact ⟨by omega, by omega⟩
  · intro w mt b vF MF hm env M r env' M' hf hn hu hrt ls H locs cells slots hl ho kk
    obtain ⟨x, q, h1, h2, rfl, rfl, h5, h6⟩ := hg env M r env' M' hf
    have a1 := ha.1 env' M x.1 x.2 h1
    have a2 := hc.1 env' x.2 q.1 q.2 h2
    have e1 : mN M' = mN q.2 := by show M'.1.1 = q.2.1.1; rw [h5]
    have e2 : mU M' = mU q.2 := by show M'.1.2 = q.2.1.2; rw [h5]
    have hw := hπ x.1
    refine ha.2 w mt b vF MF hm env' M x.1 x.2 h1 (by omega) (by omega) [] ls H locs cells slots (by simp [wt]; omega) hl ho (fun H' l' c' s' o' => ?_)
    refine hc.2 w mt b vF MF hm env' x.2 q.1 q.2 h2 (by omega) (by omega) (π x.1 ++ []) ls H' l' c' s' (by rw [wt_app]; simp [wt]; simp [wt] at hw; omega) hl o' (fun H'' l'' c'' s'' o'' => ?_)
    exact h6 w mt b vF MF hm ls H'' l'' c'' s'' o'' (fun H3 l3 o3 => kk p3 rfl ls H3 l3 c'' s'' hl o3)
theorem nZ {x : Int32} (h : okZ x = true) : narrow .boolean (.int x) = .int x ∧ fits .boolean (.int x) = true := by
  have h : x = 0 ∨ x = 1 := of_decide_eq_true h
  rcases h with rfl | rfl <;> exact ⟨rfl, rfl⟩

theorem y_PutI {d1 d2 pc p1 p2 pb pk t k idx : Nat} {oo : Ev Nat} {ee : Ev Int32} (h1 : XP G K d1 pc p1 piA oo) (h2 : XP G K d2 p1 p2 piI ee) (hd : decode (kC K) p2 = .ok (.putfield idx, 3)) (hfl : FL (kY K).cls idx t k .int) (hfw : FW K idx t k)  (h8 : max d1 (d2 + 1) ≤ 8) : XS G K pc (p2 + 3) pb pk (sPutI (t + 1) k oo ee) := by
  refine ys2 h1 wA h2 h8 (fun env M r env' M' h => ?_)
  obtain ⟨x, g1, g2⟩ := bnd h
  obtain ⟨q, g3, g4⟩ := bnd g2
  split at g4
  · rename_i htg
    cases g4
    refine ⟨x, q, g1, g3, rfl, rfl, rfl, fun w mt b vF MF hm ls H locs cells slots o kk => ?_⟩
    exact fput hfl hfw hd w mt b vF MF hm q.2 (pI q.2 x.1 k q.1) x.1 (.int q.1) [] ls H locs cells slots o htg rfl rfl rfl rfl (fun ty c j hc => fv_pI_ne hc j) (fun tf j htf => fv_pI (by rw [htf]; rfl) j) kk
  · cases g4
theorem y_PutZ {d1 d2 pc p1 p2 pb pk t k idx : Nat} {oo : Ev Nat} {ee : Ev Int32} (h1 : XP G K d1 pc p1 piA oo) (h2 : XP G K d2 p1 p2 piI ee) (hd : decode (kC K) p2 = .ok (.putfield idx, 3)) (hfl : FL (kY K).cls idx t k .boolean) (hfw : FW K idx t k)  (h8 : max d1 (d2 + 1) ≤ 8) : XS G K pc (p2 + 3) pb pk (sPutZ (t + 1) k oo ee) := by
  refine ys2 h1 wA h2 h8 (fun env M r env' M' h => ?_)
  obtain ⟨x, g1, g2⟩ := bnd h
  obtain ⟨q, g3, g4⟩ := bnd g2
  split at g4
  · rename_i htg
    cases g4
    refine ⟨x, q, g1, g3, rfl, rfl, rfl, fun w mt b vF MF hm ls H locs cells slots o kk => ?_⟩
    exact fput hfl hfw hd w mt b vF MF hm q.2 (pI q.2 x.1 k q.1) x.1 (.int q.1) [] ls H locs cells slots o htg.1 (nZ htg.2).1 (nZ htg.2).2 rfl rfl (fun ty c j hc => fv_pI_ne hc j) (fun tf j htf => fv_pI (by rw [htf]; rfl) j) kk
  · cases g4
theorem y_PutL {d1 d2 pc p1 p2 pb pk t k idx : Nat} {oo : Ev Nat} {ee : Ev Int64} (h1 : XP G K d1 pc p1 piA oo) (h2 : XP G K d2 p1 p2 piL ee) (hd : decode (kC K) p2 = .ok (.putfield idx, 3)) (hfl : FL (kY K).cls idx t k .long) (hfw : FW K idx t k)  (h8 : max d1 (d2 + 1) ≤ 8) : XS G K pc (p2 + 3) pb pk (sPutL (t + 1) k oo ee) := by
  refine ys2 h1 wA h2 h8 (fun env M r env' M' h => ?_)
  obtain ⟨x, g1, g2⟩ := bnd h
  obtain ⟨q, g3, g4⟩ := bnd g2
  split at g4
  · rename_i htg
    cases g4
    refine ⟨x, q, g1, g3, rfl, rfl, rfl, fun w mt b vF MF hm ls H locs cells slots o kk => ?_⟩
    exact fput hfl hfw hd w mt b vF MF hm q.2 (pL q.2 x.1 k q.1) x.1 (.long q.1) [] ls H locs cells slots o htg rfl rfl rfl rfl (fun ty c j hc => fv_pL_ne hc j) (fun tf j htf => fv_pL htf j) kk
  · cases g4
theorem y_PutR {d1 d2 pc p1 p2 pb pk t k idx : Nat} {ty : FieldType} {oo : Ev Nat} {ee : Ev Nat} (h1 : XP G K d1 pc p1 piA oo) (h2 : XP G K d2 p1 p2 piA ee) (hd : decode (kC K) p2 = .ok (.putfield idx, 3)) (hfl : FL (kY K).cls idx t k ty) (hfw : FW K idx t k) (hty : isR ty = true) (h8 : max d1 (d2 + 1) ≤ 8) : XS G K pc (p2 + 3) pb pk (sPutR (t + 1) k oo ee) := by
  refine ys2 h1 wA h2 h8 (fun env M r env' M' h => ?_)
  obtain ⟨x, g1, g2⟩ := bnd h
  obtain ⟨q, g3, g4⟩ := bnd g2
  split at g4
  · rename_i htg
    cases g4
    refine ⟨x, q, g1, g3, rfl, rfl, rfl, fun w mt b vF MF hm ls H locs cells slots o kk => ?_⟩
    exact fput hfl hfw hd w mt b vF MF hm q.2 (pR q.2 x.1 k (some q.1)) x.1 (.ref q.1) [] ls H locs cells slots o htg (by cases ty <;> first | rfl | cases hty) (by cases ty <;> first | rfl | cases hty) rfl rfl (fun ty c j hc => fv_pR_ne hc j) (fun tf j htf => fv_pR (x := some q.1) (by rw [htf]; exact hty) j) kk
  · cases g4
theorem y_exp {d pc p1 pb pk : Nat} {a : Ev Unit} (ha : XP G K d pc p1 piU a) (h8 : d ≤ 8) : XS G K pc p1 pb pk (sExp a) := by
  refine ys1 ha h8 (fun env M r env' M' h => ?_)
  obtain ⟨q, h1, h2⟩ := bnd h
  cases h2
  exact ⟨q, h1, rfl, rfl, fun w mt b vF MF hm ls H locs cells slots hl o kk => kk ls H locs cells slots hl o⟩
theorem y_pop {d pc p1 pb pk : Nat} {a : Ev Int32} (ha : XP G K d pc p1 piI a) (hd : decode (kC K) p1 = .ok (.pop, 1)) (h8 : d ≤ 8) : XS G K pc (p1 + 1) pb pk (sExp a) := by
  refine ys1 ha h8 (fun env M r env' M' h => ?_)
  obtain ⟨q, h1, h2⟩ := bnd h
  cases h2
  refine ⟨q, h1, rfl, rfl, fun w mt b vF MF hm ls H locs cells slots hl o kk => ?_⟩
  have kk := kk ls H locs cells slots hl o
  obtain ⟨p, e, R, s, args, below, meth, c, Q, rfl, hx, hb, hml, hown, hK, hnm, hR1, hR2, hR3, hR4, hret⟩ := hm
  exact lv_pop hx hb hd rfl kk
theorem yr {α : Type} {d pc p1 pn pb pk : Nat} {π : α → List Value} {a : Ev α} {f : Sv} (ha : XP G K d pc p1 π a) (h8 : d ≤ 8) (hg : ∀ env M r env' M', f env M = some (r, env', M') → ∃ q v, a env M = some q ∧ r = .inr v ∧ M' = q.2 ∧ π q.1 = v.toList ∧ rtOK K v p1) : XS G K pc pn pb pk f := by
  refine ⟨fun env M r env' M' h => ?_, ?_⟩
  · obtain ⟨q, v, h1, h2, h3, -⟩ := hg env M r env' M' h
    rw [h3]; exact ha.1 env M q.1 q.2 h1
  · intro w mt b vF MF hm env M r env' M' hf hn hu hrt ls H locs cells slots hl ho kk
    obtain ⟨q, v, h1, h2, h3, h4, h5⟩ := hg env M r env' M' hf
    obtain ⟨e1, e2⟩ := hrt v h2
    refine ha.2 w mt b vF MF hm env M q.1 q.2 h1 (by rw [← h3]; exact hn) (by rw [← h3]; exact hu) [] ls H locs cells slots (by simpa [wt] using h8) hl ho (fun H' l' c' s' o' => ?_)
    rw [h4, List.append_nil, e1]
    rw [← h3, e2] at o'
    obtain ⟨p, e, R, s, args, below, meth, c, Q, hw, hx, hb, hml, hown, hK, hnm, hR1, hR2, hR3, hR4, hret⟩ := hm
    exact hret p1 ls H' l' c' s' (by rw [← e1]; exact h5) o'
theorem y_retI {d pc p1 pn pb pk : Nat} {a : Ev Int32} (ha : XP G K d pc p1 piI a) (hd : decode (kC K) p1 = .ok (.ireturn, 1)) (hT : kT K = some .int) (h8 : d ≤ 8) : XS G K pc pn pb pk (sRetI a) := by
  refine yr ha h8 (fun env M r env' M' h => ?_)
  obtain ⟨q, h1, h2⟩ := bnd h
  cases h2
  exact ⟨q, _, h1, rfl, rfl, rfl, hd, Or.inl hT⟩
theorem y_retZ {d pc p1 pn pb pk : Nat} {a : Ev Int32} (ha : XP G K d pc p1 piI a) (hd : decode (kC K) p1 = .ok (.ireturn, 1)) (hT : kT K = some .boolean) (h8 : d ≤ 8) : XS G K pc pn pb pk (sRetZ a) := by
  refine yr ha h8 (fun env M r env' M' h => ?_)
  obtain ⟨q, h1, h2⟩ := bnd h
  split at h2
  · rename_i hz
    cases h2
    exact ⟨q, _, h1, rfl, rfl, rfl, hd, Or.inr ⟨_, hT, (nZ hz).1⟩⟩
  · cases h2
def sRetN (ty : FieldType) (e : Ev Int32) : Sv := fun env M => (e env M).bind fun r => if narrow ty (.int r.1) = .int r.1 then some (.inr (some (.int r.1)), env, r.2) else none
theorem y_retN {d pc p1 pn pb pk : Nat} {ty : FieldType} {a : Ev Int32} (ha : XP G K d pc p1 piI a) (hd : decode (kC K) p1 = .ok (.ireturn, 1)) (hT : kT K = some ty) (h8 : d ≤ 8) : XS G K pc pn pb pk (sRetN ty a) := by
  refine yr ha h8 (fun env M r env' M' h => ?_)
  obtain ⟨q, h1, h2⟩ := bnd h
  split at h2
  · rename_i hz
    cases h2
    exact ⟨q, _, h1, rfl, rfl, rfl, hd, Or.inr ⟨_, hT, hz⟩⟩
  · cases h2
def sFail : Sv := fun _ _ => none
theorem yFail {pc pn pb pk : Nat} : XS G K pc pn pb pk sFail := by
  refine ⟨(fun env M r env' M' h => by cases h), ?_⟩
  intro w mt b vF MF hm env M r env' M' hf hn hu hrt ls H locs cells slots hl ho kk
  cases hf
theorem y_retL {d pc p1 pn pb pk : Nat} {a : Ev Int64} (ha : XP G K d pc p1 piL a) (hd : decode (kC K) p1 = .ok (.lreturn, 1)) (hT : kT K = some .long) (h8 : d ≤ 8) : XS G K pc pn pb pk (sRetL a) := by
  refine yr ha h8 (fun env M r env' M' h => ?_)
  obtain ⟨q, h1, h2⟩ := bnd h
  cases h2
  exact ⟨q, _, h1, rfl, rfl, rfl, hd, hT⟩
theorem y_retV {pc pn pb pk : Nat} (hd : decode (kC K) pc = .ok (.return_, 1)) (hT : kT K = none) : XS G K pc pn pb pk sRetV := by
  refine ⟨fun env M r env' M' h => ?_, ?_⟩
  · cases h; exact ⟨Nat.le_refl _, Nat.le_refl _⟩
  · intro w mt b vF MF hm env M r env' M' hf hn hu hrt ls H locs cells slots hl ho kk
    cases hf
    obtain ⟨e1, e2⟩ := hrt none rfl
    subst e1; subst e2
    obtain ⟨p, e, R, s, args, below, meth, c, Q, hw, hx, hb, hml, hown, hK, hnm, hR1, hR2, hR3, hR4, hret⟩ := hm
    exact hret pc ls H locs cells slots ⟨hd, hT⟩ ho
theorem yScope {pc pn pb pk n : Nat} {a : Sv} (ha : XS G K pc pn pb pk a) : XS G K pc pn pb pk (sScope n a) := by
  refine ⟨fun env M r env' M' h => ?_, ?_⟩
  · obtain ⟨q, h1, h2⟩ := bnd h
    cases h2
    exact ha.1 _ _ _ _ _ h1
  · intro w mt b vF MF hm env M r env' M' hf hn hu hrt ls H locs cells slots hl ho kk
    obtain ⟨q, h1, h2⟩ := bnd hf
    cases h2
    refine ha.2 w mt b vF MF hm env M q.1 q.2.1 q.2.2 h1 hn hu hrt ls H locs cells slots hl ho (fun t hex ls' H' l' c' s' hl' o' => kk t hex ls' H' l' c' s' ⟨hl'.1, hl'.2.1, fun i v hv hne => hl'.2.2 i v ?_ hne⟩ o')
    rw [List.getElem?_take] at hv
    split at hv
    · exact hv
    · cases hv
theorem yUnBrk {pc pn pb pk : Nat} {a : Sv} (ha : XS G K pc pn pn pk a) : XS G K pc pn pb pk (unBrk a) := by
  refine ⟨fun env M r env' M' h => ?_, ?_⟩
  · obtain ⟨⟨q1, q2, q3⟩, h1, h2⟩ := bnd h
    split at h2 <;> cases h2 <;> exact ha.1 _ _ _ _ _ h1
  · intro w mt b vF MF hm env M r env' M' hf hn hu hrt ls H locs cells slots hl ho kk
    obtain ⟨⟨q1, q2, q3⟩, h1, h2⟩ := bnd hf
    match q1, h1, h2 with
    | .inl 0, h1, h2 => cases h2; exact ha.2 w mt b vF MF hm env M _ _ _ h1 hn hu hrt ls H locs cells slots hl ho kk
    | .inl 1, h1, h2 => cases h2; exact ha.2 w mt b vF MF hm env M _ _ _ h1 hn hu (fun v hv => by cases hv) ls H locs cells slots hl ho kk
    | .inl 2, h1, h2 => cases h2; exact ha.2 w mt b vF MF hm env M _ _ _ h1 hn hu hrt ls H locs cells slots hl ho kk
    | .inl (n + 3), h1, h2 => cases h2; exact ha.2 w mt b vF MF hm env M _ _ _ h1 hn hu hrt ls H locs cells slots hl ho (fun t hex => by cases hex)
    | .inr v, h1, h2 => cases h2; exact ha.2 w mt b vF MF hm env M _ _ _ h1 hn hu hrt ls H locs cells slots hl ho (fun t hex => by cases hex)
end RS
