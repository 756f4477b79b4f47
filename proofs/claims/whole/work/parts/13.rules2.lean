theorem uX0 : ∀ w ∈ u_ws RX0 TX0 9, w ∈ TBL := by decide +kernel
theorem uX1 : ∀ w ∈ u_ws RX1 TX1 4, w ∈ TBL := by decide +kernel
theorem uX2 : ∀ w ∈ u_ws RX2 TX2 3, w ∈ TBL := by decide +kernel
theorem uX3 : ∀ w ∈ u_ws RX3 TX3 5, w ∈ TBL := by decide +kernel
theorem uX4 : ∀ w ∈ u_ws RX4 TX4 20, w ∈ TBL := by decide +kernel
theorem uX5 : ∀ w ∈ u_ws RX5 TX5 20, w ∈ TBL := by decide +kernel
theorem uX6 : ∀ w ∈ u_ws RX6 TX6 3, w ∈ TBL := by decide +kernel
theorem uX7 : ∀ w ∈ u_ws RX7 TX7 5, w ∈ TBL := by decide +kernel
theorem uX8 : ∀ w ∈ u_ws RX8 TX8 15, w ∈ TBL := by decide +kernel
theorem uX9 : ∀ w ∈ u_ws RX9 TX9 30, w ∈ TBL := by decide +kernel
theorem uX10 : ∀ w ∈ u_ws RX10 TX10 33, w ∈ TBL := by decide +kernel
theorem cT_ok : ∀ (t : Nat) (q : vw_C × (Nat → FieldType)), cT[t]? = some q → (∀ w ∈ u_ws q.1.1 q.1.2.1 q.1.2.2, w ∈ TBL) ∧ (∀ k, k < q.1.2.2 → parseFieldDescriptor (q.1.2.1 k).2.2.1 = some (q.2 k)) ∧ (∀ a, a < q.1.2.2 → ∀ b, b < q.1.2.2 → a ≠ b → (q.1.2.1 a).2.1 ≠ (q.1.2.1 b).2.1) ∧ t < 11 := by
  intro t q h
  match t, h with
  | 0, h => cases h; exact ⟨uX0, tyX0_ok, nmX0, by decide⟩
  | 1, h => cases h; exact ⟨uX1, tyX1_ok, nmX1, by decide⟩
  | 2, h => cases h; exact ⟨uX2, tyX2_ok, nmX2, by decide⟩
  | 3, h => cases h; exact ⟨uX3, tyX3_ok, nmX3, by decide⟩
  | 4, h => cases h; exact ⟨uX4, tyX4_ok, nmX4, by decide⟩
  | 5, h => cases h; exact ⟨uX5, tyX5_ok, nmX5, by decide⟩
  | 6, h => cases h; exact ⟨uX6, tyX6_ok, nmX6, by decide⟩
  | 7, h => cases h; exact ⟨uX7, tyX7_ok, nmX7, by decide⟩
  | 8, h => cases h; exact ⟨uX8, tyX8_ok, nmX8, by decide⟩
  | 9, h => cases h; exact ⟨uX9, tyX9_ok, nmX9, by decide⟩
  | 10, h => cases h; exact ⟨uX10, tyX10_ok, nmX10, by decide⟩
  | t + 11, h => simp [cT] at h
def FL (own : String) (idx t k : Nat) (ty : FieldType) : Prop := ∃ q, cT[t]? = some q ∧ k < q.1.2.2 ∧ q.2 k = ty ∧ (Cond.fieldLink own idx (q.1.2.1 k).1 (q.1.2.1 k).2.1 (q.1.2.1 k).2.2.1 ∈ TBL ∨ ∃ host, Cond.fieldLinkNest own idx (q.1.2.1 k).1 (q.1.2.1 k).2.1 (q.1.2.1 k).2.2.1 host ∈ NST)
/-- may be written: not final, or its class' own constructor writes it, by a plain link -/
def FW (K : qK) (idx t k : Nat) : Prop := ∃ q, cT[t]? = some q ∧ ((q.1.2.1 k).2.2.2 = false ∨ ((q.1.2.1 k).2.2.2 = true ∧ (kY K).name = "<init>" ∧ (q.1.2.1 k).1 = (kY K).cls ∧ Cond.fieldLink (kY K).cls idx (q.1.2.1 k).1 (q.1.2.1 k).2.1 (q.1.2.1 k).2.2.1 ∈ TBL))
theorem fv_ty {ty : Nat → FieldType} {k : Nat} {t : FieldType} (h : ty k = t) (M : qM) (a : Nat) : fv ty M a k = fv (fun _ => t) M a k := by unfold fv; rw [h]
theorem rp.obj {G : qG} {M : qM} {H : Heap} {a t : Nat} {q : vw_C × (Nat → FieldType)} (h : rp G M H) (ht : (tg M a).1 = t + 1) (hq : cT[t]? = some q) : t_OB a (gC G t) q.1.2.2 (gS G t) H (fv q.2 M a) := by
  have hc := (h.2.2.2 a (by omega)).2.2
  have hlt := (cT_ok t q hq).2.2.2
  unfold cOK at hc
  rw [if_pos (by omega)] at hc
  obtain ⟨q', h1, h2⟩ := hc
  rw [ht, Nat.add_sub_cancel] at h1 h2
  cases hq.symm.trans h1
  exact h2
theorem rp.arr {G : qG} {M : qM} {H : Heap} {a t : Nat} (h : rp G M H) (ht : (tg M a).1 = t) (h20 : 20 ≤ t) : t ≤ 24 ∧ H[a]? = some (arrV (gA G t) (tg M a).2 (fv (fun _ => aT t) M a)) := by
  have hc := (h.2.2.2 a (by omega)).2.2
  unfold cOK at hc
  rw [if_neg (by omega), ht] at hc
  exact hc
section RV
variable {G : qG} {K : qK}
theorem fget {t k idx pc : Nat} {ty : FieldType} (hfl : FL (kY K).cls idx t k ty) (hd : decode (kC K) pc = .ok (.getfield idx, 3)) : ∀ w mt b vF MF, Mx G K w mt b vF MF → ∀ (M : qM) (a : Nat) (st : List Value) (ls : Array Slot) (H : Heap) (locs : List Loc) (cells slots : Nat), rp G M H → (tg M a).1 = t + 1 → w H locs cells slots (F0 mt (pc + 3) ls (fv (fun _ => ty) M a k :: st)) → w H locs cells slots (F0 mt pc ls (.ref a :: st)) := by
  intro w mt b vF MF hm M a st ls H locs cells slots hr ht kk
  obtain ⟨q, hq, hk, hty, hlk⟩ := hfl
  obtain ⟨p, e, R, s, args, below, meth, c, Q, rfl, hx, hb, hml, hown, hK, hnm, hR1, hR2, hR3, hR4, hret⟩ := hm
  obtain ⟨cell, q1, q2, q3, q4⟩ := hr.obj ht hq
  obtain ⟨hS, hfc, kC1, hkC, hkind⟩ := hK.2.2.1 t q hq
  obtain ⟨cf, kf, fi, f, hi, hsl⟩ := hS k hk
  have hts : ∀ w ∈ TBL, w.before args s = true := fun w h => hK.word h args
  have hst := (u_facts hfc hkC (u_lays hts (cT_ok t q hq).1 hk) hi).1
  have hv : cell.slots[f.slot]? = some (fv (fun _ => ty) M a k) := by rw [hsl, q4 k hk, fv_ty hty]
  rcases hlk with hlk | ⟨host, hlk⟩
  · exact W.getf hx hb hown (hts _ hlk) hi hst q1 (by rw [q3]; exact fun h => by cases h) hv rfl rfl hd kk
  · exact va_Wgetf hx hb hown (va_Nw.use rfl (hK.2.1 _ hlk)) hi hst q1 (by rw [q3]; exact fun h => by cases h) hv rfl rfl hd kk
theorem fput {t k idx pc : Nat} {ty : FieldType} (hfl : FL (kY K).cls idx t k ty) (hfw : FW K idx t k) (hd : decode (kC K) pc = .ok (.putfield idx, 3)) : ∀ w mt b vF MF, Mx G K w mt b vF MF → ∀ (M M' : qM) (a : Nat) (v : Value) (st : List Value) (ls : Array Slot) (H : Heap) (locs : List Loc) (cells slots : Nat), Ok G b M H locs cells slots → (tg M a).1 = t + 1 → narrow ty v = v → fits ty v = true → M'.1 = M.1 → tg M' = tg M → (∀ (ty : Nat → FieldType) (c j : Nat), c ≠ a → fv ty M' c j = fv ty M c j) → (∀ (tf : Nat → FieldType) (j : Nat), tf k = ty → fv tf M' a j = updV (fv tf M a) k v j) →
    (∀ H' locs', Ok G b M' H' locs' cells slots → w H' locs' cells slots (F0 mt (pc + 3) ls st)) → w H locs cells slots (F0 mt pc ls (v :: .ref a :: st)) := by
  intro w mt b vF MF hm M M' a v st ls H locs cells slots ho ht hn hfit e1 e2 e3 e4 kk
  obtain ⟨q, hq, hk, hty, hlk⟩ := hfl
  obtain ⟨q', hq', hfw⟩ := hfw
  cases hq.symm.trans hq'
  obtain ⟨p, e, R, s, args, below, meth, c, Q, rfl, hx, hb, hml, hown, hK, hnm, hR1, hR2, hR3, hR4, hret⟩ := hm
  obtain ⟨cell, q1, q2, q3, q4⟩ := ho.1.obj ht hq
  obtain ⟨hS, hfc, kC1, hkC, hkind⟩ := hK.2.2.1 t q hq
  have hts : ∀ w ∈ TBL, w.before args s = true := fun w h => hK.word h args
  obtain ⟨hin, hdesc, hnam, hlt⟩ := cT_ok t q hq
  have hap : ∀ x y, x < q.1.2.2 → y < q.1.2.2 → x ≠ y → gS G t x ≠ gS G t y := by
    intro x y hx1 hy1 hne
    obtain ⟨_, _, _, fa, hia, ea⟩ := hS x hx1
    obtain ⟨_, _, _, fb, hib, eb⟩ := hS y hy1
    rw [← ea, ← eb]
    refine u_apart (u_lays hts hin hx1) (u_lays hts hin hy1) hia hib ?_
    rw [(State.fieldFound?_type hia (hdesc x hx1)).1, (State.fieldFound?_type hib (hdesc y hy1)).1]
    exact hnam x hx1 y hy1 hne
  obtain ⟨cf, kf, fi, f, hi, hsl⟩ := hS k hk
  have hst := (u_facts hfc hkC (u_lays hts hin hk) hi).1
  have hdk : parseFieldDescriptor (q.1.2.1 k).2.2.1 = some ty := by rw [hdesc k hk, hty]
  have hlay := hts _ (hin _ (u_in_lay hk))
  have hgo : ∀ H' : Heap, H'[a]? = some (cell.setSlot f.slot v) → H'.size = H.size → (∀ q, q ≠ a → H'[q]? = H[q]?) → W p (gl G) e R s mt args below meth c H' (locs ++ [⟨a, f.slot⟩]) cells slots Q (F0 mt (pc + 3) ls st) := by
    intro H' z1 z2 z3
    rw [hsl] at z1
    have hB := (ho.1.2.2.2 a (by omega)).1
    refine kk H' _ ⟨?_, ?_, ?_, ?_⟩
    · refine ho.1.upd (a := a) (by omega) (by show M'.1.1 = M.1.1; rw [e1]) e2 e3 z2 z3 ?_
      unfold cOK
      rw [e2, ht, if_pos (by omega), Nat.add_sub_cancel]
      refine ⟨q, hq, t_OB.to (V := updV (fv q.2 M a) k v) ⟨_, z1, q2, q3, t_set q4 hap hk v⟩ (fun j _ => (e4 q.2 j hty).symm)⟩
    · intro z hz
      rcases List.mem_append.mp hz with h | h
      · exact ho.2.1 z h
      · rw [List.mem_singleton.mp h]; exact hB
    · rw [ho.2.2.1]; show M.1.1 = M'.1.1; rw [e1]
    · rw [ho.2.2.2]; show M.1.2 = M'.1.2; rw [e1]
  rcases hfw with hfin | ⟨hfin, hini, hdecl, hlk2⟩
  · unfold u_lay at hlay
    rw [if_neg (by rw [hfin]; decide)] at hlay
    have h6 := u_store hfc hkC hkind hlay hi hdk hn hfit
    rcases hlk with hlk | ⟨host, hlk⟩
    · exact W.putK hx hb (f := f) ⟨hown, hts _ hlk, ⟨_, _, _, hi⟩, hst⟩ (by rw [q2]; exact h6) q1 q3 (by rw [hsl]; exact k2_hasslot (q4 k hk)) rfl rfl hd hgo
    · exact va_WputK hx hb (f := f) hown (va_Nw.use rfl (hK.2.1 _ hlk)) hi hst (by rw [q2]; exact h6) q1 q3 (by rw [hsl]; exact k2_hasslot (q4 k hk)) rfl rfl hd hgo
  · unfold u_lay at hlay
    rw [if_pos hfin] at hlay
    have hcf : mt.cls = cf := by
      obtain ⟨_, _, c', _, _, _, -, -, hf', -, -, -, hown2, -⟩ := Cond.laysFinal_spec hlay
      have e1 : c' = cf := by have := hi.symm.trans hf'; simp at this; exact this.1.symm
      rw [hdecl] at hown2
      rw [← e1]; exact Option.some.inj (hown.symm.trans hown2)
    have h6 := u_fits hfc hkC hkind (Or.inr hlay) hi hdk hn hfit
    exact W.putFinK hx hb hown (hts _ hlk2) hi hst hcf (hnm.trans hini) (by rw [q2]; exact h6) q1 q3 (by rw [hsl]; exact k2_hasslot (q4 k hk)) rfl rfl hd hgo

theorem x_gI {d t k idx pc p1 : Nat} {ty : FieldType} {a : Ev Nat} (ha : XP G K d pc p1 piA a) (hd : decode (kC K) p1 = .ok (.getfield idx, 3)) (hfl : FL (kY K).cls idx t k ty) (hty : isI ty = true) : XP G K d pc (p1 + 3) piI (gI (t + 1) k a) := by
  refine ⟨fun env M x M' h => ?_, ?_⟩
  · obtain ⟨r, h1, h2⟩ := bnd h
    split at h2
    · cases h2; exact ha.1 env M r.1 r.2 h1
    · cases h2
  · intro w mt b vF MF hm env M x M' hf hn hu st ls H locs cells slots hst hl ho kk
    obtain ⟨r, h1, h2⟩ := bnd hf
    split at h2
    · rename_i htg
      cases h2
      refine ha.2 w mt b vF MF hm env M r.1 r.2 h1 hn hu st ls H locs cells slots hst hl ho (fun H' l' c' s' o' => ?_)
      refine fget hfl hd w mt b vF MF hm r.2 r.1 st ls H' l' c' s' o'.1 htg ?_
      rw [fv_I (ty := fun _ => ty) (k := k) hty]
      exact kk H' l' c' s' o'
    · cases h2
theorem x_gL {d t k idx pc p1 : Nat} {ty : FieldType} {a : Ev Nat} (ha : XP G K d pc p1 piA a) (hd : decode (kC K) p1 = .ok (.getfield idx, 3)) (hfl : FL (kY K).cls idx t k ty) (hty : ty = .long) : XP G K d pc (p1 + 3) piL (gL (t + 1) k a) := by
  refine ⟨fun env M x M' h => ?_, ?_⟩
  · obtain ⟨r, h1, h2⟩ := bnd h
    split at h2
    · cases h2; exact ha.1 env M r.1 r.2 h1
    · cases h2
  · intro w mt b vF MF hm env M x M' hf hn hu st ls H locs cells slots hst hl ho kk
    obtain ⟨r, h1, h2⟩ := bnd hf
    split at h2
    · rename_i htg
      cases h2
      refine ha.2 w mt b vF MF hm env M r.1 r.2 h1 hn hu st ls H locs cells slots hst hl ho (fun H' l' c' s' o' => ?_)
      refine fget hfl hd w mt b vF MF hm r.2 r.1 st ls H' l' c' s' o'.1 htg ?_
      rw [fv_L (ty := fun _ => ty) (k := k) hty]
      exact kk H' l' c' s' o'
    · cases h2
theorem x_gN {d t k idx pc p1 : Nat} {ty : FieldType} {a : Ev Nat} (ha : XP G K d pc p1 piA a) (hd : decode (kC K) p1 = .ok (.getfield idx, 3)) (hfl : FL (kY K).cls idx t k ty) (hty : isR ty = true) : XP G K d pc (p1 + 3) piN (gN (t + 1) k a) := by
  refine ⟨fun env M x M' h => ?_, ?_⟩
  · obtain ⟨r, h1, h2⟩ := bnd h
    split at h2
    · cases h2; exact ha.1 env M r.1 r.2 h1
    · cases h2
  · intro w mt b vF MF hm env M x M' hf hn hu st ls H locs cells slots hst hl ho kk
    obtain ⟨r, h1, h2⟩ := bnd hf
    split at h2
    · rename_i htg
      cases h2
      refine ha.2 w mt b vF MF hm env M r.1 r.2 h1 hn hu st ls H locs cells slots hst hl ho (fun H' l' c' s' o' => ?_)
      refine fget hfl hd w mt b vF MF hm r.2 r.1 st ls H' l' c' s' o'.1 htg ?_
      rw [fv_R (ty := fun _ => ty) (k := k) hty]
      exact kk H' l' c' s' o'
    · cases h2
theorem x_gR {d t k idx pc p1 : Nat} {ty : FieldType} {a : Ev Nat} (ha : XP G K d pc p1 piA a) (hd : decode (kC K) p1 = .ok (.getfield idx, 3)) (hfl : FL (kY K).cls idx t k ty) (hty : isR ty = true) : XP G K d pc (p1 + 3) piA (gR (t + 1) k a) := by
  have hN := x_gN ha hd hfl hty
  have key : ∀ env M x M', gR (t + 1) k a env M = some (x, M') → gN (t + 1) k a env M = some (some x, M') := by
    intro env M x M' h
    obtain ⟨r, h1, h2⟩ := bnd h
    unfold gN
    rw [h1]
    simp only [Option.bind_some]
    split at h2
    · rename_i htg
      rw [if_pos htg]
      split at h2
      · rename_i y hy
        cases h2
        rw [hy]
      · cases h2
    · cases h2
  refine ⟨fun env M x M' h => hN.1 env M (some x) M' (key env M x M' h), ?_⟩
  intro w mt b vF MF hm env M x M' hf hn hu st ls H locs cells slots hst hl ho kk
  exact hN.2 w mt b vF MF hm env M (some x) M' (key env M x M' hf) hn hu st ls H locs cells slots hst hl ho kk

theorem x_iaI {d1 d2 pc p1 p2 : Nat} {a : Ev Nat} {i : Ev Int32} (ha : XP G K d1 pc p1 piA a) (hi : XP G K d2 p1 p2 piI i) (hd : decode (kC K) p2 = .ok (.iaload, 1)) : XP G K (max d1 (d2 + 1)) pc (p2 + 1) piI (aI 20 a i) := by
  refine xx ha wA hi (fun env M z M' h => ?_)
  obtain ⟨r, h1, h2⟩ := bnd h
  obtain ⟨q, h3, h4⟩ := bnd h2
  split at h4
  · rename_i htg
    cases h4
    refine ⟨r, q, h1, h3, Nat.le_refl _, Nat.le_refl _, fun w mt b vF MF hm _ _ st ls H locs cells slots _ _ o kk => ?_⟩
    obtain ⟨h24, hc⟩ := o.1.arr htg.1 (by decide)
    have hin : ¬ (q.1 < 0 ∨ (tg q.2 r.1).2 ≤ q.1.toNatClampNeg) := of_decide_eq_true htg.2
    have hlt : q.1.toNatClampNeg < (tg q.2 r.1).2 := Nat.not_le.mp fun z => hin (Or.inr z)
    have kk := kk H locs cells slots o
    obtain ⟨p, e, R, s, args, below, meth, c, Q, rfl, hx, hb, hml, hown, hK, hnm, hR1, hR2, hR3, hR4, hret⟩ := hm
    exact W.iald hx hb hc ((hK.2.2.2.1 20 (by decide) (by decide)).1 _ _) (fun q => by cases q) (by rw [arrV_size]; exact hin) (by rw [arrV_read _ _ hlt]; rfl) rfl rfl hd kk
  · cases h4
theorem x_iaB {d1 d2 pc p1 p2 : Nat} {a : Ev Nat} {i : Ev Int32} (ha : XP G K d1 pc p1 piA a) (hi : XP G K d2 p1 p2 piI i) (hd : decode (kC K) p2 = .ok (.baload, 1)) : XP G K (max d1 (d2 + 1)) pc (p2 + 1) piI (aI 22 a i) := by
  refine xx ha wA hi (fun env M z M' h => ?_)
  obtain ⟨r, h1, h2⟩ := bnd h
  obtain ⟨q, h3, h4⟩ := bnd h2
  split at h4
  · rename_i htg
    cases h4
    refine ⟨r, q, h1, h3, Nat.le_refl _, Nat.le_refl _, fun w mt b vF MF hm _ _ st ls H locs cells slots _ _ o kk => ?_⟩
    obtain ⟨h24, hc⟩ := o.1.arr htg.1 (by decide)
    have hin : ¬ (q.1 < 0 ∨ (tg q.2 r.1).2 ≤ q.1.toNatClampNeg) := of_decide_eq_true htg.2
    have hlt : q.1.toNatClampNeg < (tg q.2 r.1).2 := Nat.not_le.mp fun z => hin (Or.inr z)
    have kk := kk H locs cells slots o
    obtain ⟨p, e, R, s, args, below, meth, c, Q, rfl, hx, hb, hml, hown, hK, hnm, hR1, hR2, hR3, hR4, hret⟩ := hm
    exact W.bald hx hb hc ((hK.2.2.2.1 22 (by decide) (by decide)).1 _ _) (fun q => by cases q) (by rw [arrV_size]; exact hin) (by rw [arrV_read _ _ hlt]; rfl) rfl rfl hd kk
  · cases h4
theorem x_iaZ {d1 d2 pc p1 p2 : Nat} {a : Ev Nat} {i : Ev Int32} (ha : XP G K d1 pc p1 piA a) (hi : XP G K d2 p1 p2 piI i) (hd : decode (kC K) p2 = .ok (.baload, 1)) : XP G K (max d1 (d2 + 1)) pc (p2 + 1) piI (aI 23 a i) := by
  refine xx ha wA hi (fun env M z M' h => ?_)
  obtain ⟨r, h1, h2⟩ := bnd h
  obtain ⟨q, h3, h4⟩ := bnd h2
  split at h4
  · rename_i htg
    cases h4
    refine ⟨r, q, h1, h3, Nat.le_refl _, Nat.le_refl _, fun w mt b vF MF hm _ _ st ls H locs cells slots _ _ o kk => ?_⟩
    obtain ⟨h24, hc⟩ := o.1.arr htg.1 (by decide)
    have hin : ¬ (q.1 < 0 ∨ (tg q.2 r.1).2 ≤ q.1.toNatClampNeg) := of_decide_eq_true htg.2
    have hlt : q.1.toNatClampNeg < (tg q.2 r.1).2 := Nat.not_le.mp fun z => hin (Or.inr z)
    have kk := kk H locs cells slots o
    obtain ⟨p, e, R, s, args, below, meth, c, Q, rfl, hx, hb, hml, hown, hK, hnm, hR1, hR2, hR3, hR4, hret⟩ := hm
    exact W.zald hx hb hc ((hK.2.2.2.1 23 (by decide) (by decide)).1 _ _) (fun q => by cases q) (by rw [arrV_size]; exact hin) (by rw [arrV_read _ _ hlt]; rfl) rfl rfl hd kk
  · cases h4
theorem x_iaL {d1 d2 pc p1 p2 : Nat} {a : Ev Nat} {i : Ev Int32} (ha : XP G K d1 pc p1 piA a) (hi : XP G K d2 p1 p2 piI i) (hd : decode (kC K) p2 = .ok (.laload, 1)) : XP G K (max d1 (d2 + 1)) pc (p2 + 1) piL (aL a i) := by
  refine xx ha wA hi (fun env M z M' h => ?_)
  obtain ⟨r, h1, h2⟩ := bnd h
  obtain ⟨q, h3, h4⟩ := bnd h2
  split at h4
  · rename_i htg
    cases h4
    refine ⟨r, q, h1, h3, Nat.le_refl _, Nat.le_refl _, fun w mt b vF MF hm _ _ st ls H locs cells slots _ _ o kk => ?_⟩
    obtain ⟨h24, hc⟩ := o.1.arr htg.1 (by decide)
    have hin : ¬ (q.1 < 0 ∨ (tg q.2 r.1).2 ≤ q.1.toNatClampNeg) := of_decide_eq_true htg.2
    have hlt : q.1.toNatClampNeg < (tg q.2 r.1).2 := Nat.not_le.mp fun z => hin (Or.inr z)
    have kk := kk H locs cells slots o
    obtain ⟨p, e, R, s, args, below, meth, c, Q, rfl, hx, hb, hml, hown, hK, hnm, hR1, hR2, hR3, hR4, hret⟩ := hm
    exact W.lald hx hb hc ((hK.2.2.2.1 21 (by decide) (by decide)).1 _ _) (fun q => by cases q) (by rw [arrV_size]; exact hin) (by rw [arrV_read _ _ hlt]; rfl) rfl rfl hd kk
  · cases h4
theorem x_iaR {d1 d2 pc p1 p2 : Nat} {a : Ev Nat} {i : Ev Int32} (ha : XP G K d1 pc p1 piA a) (hi : XP G K d2 p1 p2 piI i) (hd : decode (kC K) p2 = .ok (.aaload, 1)) : XP G K (max d1 (d2 + 1)) pc (p2 + 1) piA (aR a i) := by
  refine xx ha wA hi (fun env M z M' h => ?_)
  obtain ⟨r, h1, h2⟩ := bnd h
  obtain ⟨q, h3, h4⟩ := bnd h2
  split at h4
  · rename_i htg
    split at h4
    · rename_i y hy
      cases h4
      refine ⟨r, q, h1, h3, Nat.le_refl _, Nat.le_refl _, fun w mt b vF MF hm _ _ st ls H locs cells slots _ _ o kk => ?_⟩
      obtain ⟨h24, hc⟩ := o.1.arr htg.1 (by decide)
      have hin : ¬ (q.1 < 0 ∨ (tg q.2 r.1).2 ≤ q.1.toNatClampNeg) := of_decide_eq_true htg.2
      have hlt : q.1.toNatClampNeg < (tg q.2 r.1).2 := Nat.not_le.mp fun z => hin (Or.inr z)
      have kk := kk H locs cells slots o
      obtain ⟨p, e, R, s, args, below, meth, c, Q, rfl, hx, hb, hml, hown, hK, hnm, hR1, hR2, hR3, hR4, hret⟩ := hm
      exact W.aald (ty := .object "TwoWeavers$Loom") hx hb hc ((hK.2.2.2.1 24 (by decide) (by decide)).1 _ _) rfl (fun q => by cases q) (by rw [arrV_size]; exact hin) (by rw [arrV_read _ _ hlt]; show some (va_rf (vr q.2 r.1 q.1.toNatClampNeg)) = _; rw [hy]; rfl) rfl rfl hd kk
    · cases h4
  · cases h4
theorem x_alen {d pc p1 : Nat} {a : Ev Nat} (ha : XP G K d pc p1 piA a) (hd : decode (kC K) p1 = .ok (.arraylength, 1)) : XP G K d pc (p1 + 1) piI (aLen a) := by
  refine ⟨fun env M x M' h => ?_, ?_⟩
  · obtain ⟨r, h1, h2⟩ := bnd h
    split at h2
    · cases h2; exact ha.1 env M r.1 r.2 h1
    · cases h2
  · intro w mt b vF MF hm env M x M' hf hn hu st ls H locs cells slots hst hl ho kk
    obtain ⟨r, h1, h2⟩ := bnd hf
    split at h2
    · rename_i htg
      cases h2
      refine ha.2 w mt b vF MF hm env M r.1 r.2 h1 hn hu st ls H locs cells slots hst hl ho (fun H' l' c' s' o' => ?_)
      obtain ⟨h24, hc⟩ := o'.1.arr rfl htg
      have kk := kk H' l' c' s' o'
      obtain ⟨p, e, R, s, args, below, meth, c, Q, rfl, hx, hb, hml, hown, hK, hnm, hR1, hR2, hR3, hR4, hret⟩ := hm
      exact W.alen hx hb hc ((hK.2.2.2.1 _ htg h24).1 _ _) (by rw [arrV_size]) rfl rfl hd kk
    · cases h2
/-- an array's cell behind a store -/
theorem rp.ast {M M' : qM} {H H' : Heap} {a t i : Nat} {v : Value} (h : rp G M H) (ht : (tg M a).1 = t) (h20 : 20 ≤ t) (e1 : M'.1 = M.1) (e2 : tg M' = tg M) (e3 : ∀ (ty : Nat → FieldType) (b j : Nat), b ≠ a → fv ty M' b j = fv ty M b j) (e4 : ∀ j, fv (fun _ => aT t) M' a j = updV (fv (fun _ => aT t) M a) i v j) (z : H'.size = H.size) (oq : ∀ q, q ≠ a → H'[q]? = H[q]?) (hc : H'[a]? = some ((arrV (gA G t) (tg M a).2 (fv (fun _ => aT t) M a)).setSlot i v)) : rp G M' H' := by
  refine h.upd (a := a) (by omega) (by show M'.1.1 = M.1.1; rw [e1]) e2 e3 z oq ?_
  have h24 := (h.arr ht h20).1
  unfold cOK
  rw [e2, ht, if_neg (by omega)]
  refine ⟨h24, ?_⟩
  rw [hc, arrV_store]
  congr 2
  exact (funext e4).symm
theorem Ok.st {b : Nat × Nat} {M M' : qM} {H H' : Heap} {locs : List Loc} {cells slots a i : Nat} (ho : Ok G b M H locs cells slots) (hr : rp G M' H') (e1 : M'.1 = M.1) (hB : gB G ≤ a) : Ok G b M' H' (locs ++ [⟨a, i⟩]) cells slots := by
  refine ⟨hr, fun z hz => ?_, ?_, ?_⟩
  · rcases List.mem_append.mp hz with h | h
    · exact ho.2.1 z h
    · rw [List.mem_singleton.mp h]; exact hB
  · rw [ho.2.2.1]; show M.1.1 = M'.1.1; rw [e1]
  · rw [ho.2.2.2]; show M.1.2 = M'.1.2; rw [e1]

def natA (t : Nat) : Option ArrayType := if t = 20 then some .int else if t = 21 then some .long else if t = 22 then some .byte else if t = 23 then some .boolean else none
theorem rp.mk {M : qM} {H H' : Heap} {t n : Nat} (h : rp G M H) (ht : t ≠ 0) (z : H'.size = H.size + 1) (oq : ∀ q, q < H.size → H'[q]? = H[q]?) (hc : cOK G (mk1 M t n) (mN M) H') : rp G (mk1 M t n) H' := by
  obtain ⟨h1, h2, h3, h4⟩ := h
  refine ⟨by rw [z, h1]; rfl, Nat.le_trans h2 (Nat.le_succ _), fun q hq => ?_, fun a ha => ?_⟩
  · rw [oq q (by omega)]; exact h3 q hq
  · by_cases hz : a = mN M
    · subst hz; exact ⟨h2, Nat.lt_succ_self _, hc⟩
    · have htg : tg (mk1 M t n) a = tg M a := if_neg hz
      rw [htg] at ha
      obtain ⟨g1, g2, g3⟩ := h4 a ha
      refine ⟨g1, Nat.lt_succ_of_lt g2, g3.kept htg (fun ty j => ?_) (oq a (by omega))⟩
      have hz' : ¬ a = M.1.1 := hz
      unfold fv
      cases ty j <;> simp [vi, vl, vr, mk1, hz']
theorem x_nA {d pc p1 t : Nat} {at' : ArrayType} {a : Ev Int32} (ha : XP G K d pc p1 piI a) (hd : decode (kC K) p1 = .ok (.newarray at', 2)) (hat : newarray.typeOf at' = aT t) (h20 : 20 ≤ t) (h23 : t ≤ 23) (hw : Cond.arrayClass (newarray.typeOf at') ∈ TBL) : XP G K d pc (p1 + 2) piA (nA t a) := by
  refine ⟨fun env M x M' h => ?_, ?_⟩
  · obtain ⟨r, h1, h2⟩ := bnd h
    split at h2
    · cases h2
    · cases h2
      have := ha.1 env M r.1 r.2 h1
      exact ⟨Nat.le_succ_of_le this.1, Nat.le_trans this.2 (Nat.le_add_right _ _)⟩
  · intro w mt b vF MF hm env M x M' hf hn hu st ls H locs cells slots hst hl ho kk
    obtain ⟨r, h1, h2⟩ := bnd hf
    split at h2
    · cases h2
    · rename_i hneg
      cases h2
      have hn' : mN r.2 + 1 ≤ mN MF := hn
      have hu' : mU r.2 + r.1.toNatClampNeg ≤ mU MF := hu
      refine ha.2 w mt b vF MF hm env M r.1 r.2 h1 (by omega) (by omega) st ls H locs cells slots hst hl ho (fun H' l' c' s' o' => ?_)
      have hneg' : ¬ r.1 < 0 := fun h => hneg (Or.inl h)
      have hsm : r.1.toNatClampNeg ≤ 65536 := Nat.not_lt.mp fun h => hneg (Or.inr h)
      obtain ⟨o1, o2, o3, o4⟩ := o'
      have hsz := o1.1
      obtain ⟨p, e, R, s, args, below, meth, c, Q, rfl, hx, hb, hml, hown, hK, hnm, hR1, hR2, hR3, hR4, hret⟩ := hm
      refine va_newaK hx hb (hK.word hw args) (g := F0 mt p1 ls (piI r.1 ++ st)) rfl hd rfl hneg' rfl ?_ (by omega) (by omega) hsz (fun H1 cA e1 z1 q1 hAr hNm => ?_)
      · have hcb : componentBytes (newarray.typeOf at') ≤ 8 := by cases at' <;> decide
        calc _ ≤ 65536 * 8 := Nat.mul_le_mul hsm hcb
          _ ≤ _ := by decide
      · refine kk H1 l' _ _ ⟨?_, o2, by rw [Nat.add_right_comm, o3]; rfl, by rw [Nat.add_right_comm, o4]; rfl⟩
        refine o1.mk (by omega) (by rw [z1, hsz]) (fun q hq => q1 q (by omega)) ?_
        have htg : tg (mk1 r.2 t r.1.toNatClampNeg) (mN r.2) = (t, r.1.toNatClampNeg) := if_pos rfl
        unfold cOK
        rw [htg, if_neg (by show ¬ t < 20; omega)]
        refine ⟨by show t ≤ 24; omega, ?_⟩
        have hcA : gA G t = cA := by
          have hr := (hK.2.2.2.1 t h20 (by omega)).2
          rw [hat] at hNm
          have : s.vm.findClass ("[" ++ (aT t).toString) = some (gA G t) := by
            have h4 : t = 20 ∨ t = 21 ∨ t = 22 ∨ t = 23 := by omega
            rcases h4 with rfl | rfl | rfl | rfl <;> exact hr
          exact Option.some.inj (this.symm.trans hNm)
        rw [e1, hcA]
        congr 2
        funext j
        rw [hat]
        have h4 : t = 20 ∨ t = 21 ∨ t = 22 ∨ t = 23 := by omega
        rcases h4 with rfl | rfl | rfl | rfl <;> simp [aT, defaultValue, fv, vi, vl, mk1, mN]
end RV
