/-! ARRAY STORES, UPDATES, LOOPS, SWITCHES, WHOLE METHODS -/
section RT
variable {G : qG} {K : qK}
/-- a statement out of three values -/
theorem ys3 {α β γ : Type} {d1 d2 d3 k1 k2 pc p1 p2 p3 p4 pb pk : Nat} {π : α → List Value} {ρ : β → List Value} {τ : γ → List Value} {a : Ev α} {c : Ev β} {g : Ev γ} {f : Sv} (ha : XP G K d1 pc p1 π a) (hπ : ∀ x, wt (π x) ≤ k1) (hc : XP G K d2 p1 p2 ρ c) (hρ : ∀ x, wt (ρ x) ≤ k2) (hgx : XP G K d3 p2 p3 τ g) (hd : max d1 (max (d2 + k1) (d3 + k1 + k2)) ≤ 8)
    (hg : ∀ env M r env' M', f env M = some (r, env', M') → ∃ x q z, a env M = some x ∧ c env x.2 = some q ∧ g env q.2 = some z ∧ r = .inl 0 ∧ env' = env ∧ M'.1 = z.2.1 ∧ ∀ w mt b vF MF, Mx G K w mt b vF MF → ∀ (ls : Array Slot) (H : Heap) (locs : List Loc) (cells slots : Nat), Ok G b z.2 H locs cells slots → (∀ H' locs', Ok G b M' H' locs' cells slots → w H' locs' cells slots (F0 mt p4 ls [])) → w H locs cells slots (F0 mt p3 ls (τ z.1 ++ (ρ q.1 ++ (π x.1 ++ []))))) : XS G K pc p4 pb pk f := by
  refine ⟨fun env M r env' M' h => ?_, ?_⟩
  · obtain ⟨x, q, z, h1, h2, h2', h3, h4, h5, -⟩ := hg env M r env' M' h
    have a1 := ha.1 env M x.1 x.2 h1
    have a2 := hc.1 env x.2 q.1 q.2 h2
    have a3 := hgx.1 env q.2 z.1 z.2 h2'
    have e1 : mN M' = mN z.2 := by show M'.1.1 = z.2.1.1; rw [h5]
    have e2 : mU M' = mU z.2 := by show M'.1.2 = z.2.1.2; rw [h5]
    exact ⟨by omega, by omega⟩
  · intro w mt b vF MF hm env M r env' M' hf hn hu hrt ls H locs cells slots hl ho kk
    obtain ⟨x, q, z, h1, h2, h2', rfl, rfl, h5, h6⟩ := hg env M r env' M' hf
    have a1 := ha.1 env' M x.1 x.2 h1
    have a2 := hc.1 env' x.2 q.1 q.2 h2
    have a3 := hgx.1 env' q.2 z.1 z.2 h2'
    have e1 : mN M' = mN z.2 := by show M'.1.1 = z.2.1.1; rw [h5]
    have e2 : mU M' = mU z.2 := by show M'.1.2 = z.2.1.2; rw [h5]
    have hw := hπ x.1
    have hw2 := hρ q.1
    have w0 : wt ([] : List Value) = 0 := rfl
    refine ha.2 w mt b vF MF hm env' M x.1 x.2 h1 (by omega) (by omega) [] ls H locs cells slots (by omega) hl ho (fun H' l' c' s' o' => ?_)
    refine hc.2 w mt b vF MF hm env' x.2 q.1 q.2 h2 (by omega) (by omega) (π x.1 ++ []) ls H' l' c' s' (by rw [wt_app]; omega) hl o' (fun H'' l'' c'' s'' o'' => ?_)
    refine hgx.2 w mt b vF MF hm env' q.2 z.1 z.2 h2' (by omega) (by omega) (ρ q.1 ++ (π x.1 ++ [])) ls H'' l'' c'' s'' (by rw [wt_app, wt_app]; omega) hl o'' (fun H3 l3 c3 s3 o3 => ?_)
    exact h6 w mt b vF MF hm ls H3 l3 c3 s3 o3 (fun H4 l4 o4 => kk p4 rfl ls H4 l4 c3 s3 hl o4)

theorem y_AI {d1 d2 d3 pc p1 p2 p3 pb pk : Nat} {aa : Ev Nat} {ii : Ev Int32} {ee : Ev Int32} (h1 : XP G K d1 pc p1 piA aa) (h2 : XP G K d2 p1 p2 piI ii) (h3 : XP G K d3 p2 p3 piI ee) (hd : decode (kC K) p3 = .ok (.iastore, 1)) (h8 : max d1 (max (d2 + 1) (d3 + 1 + 1)) ≤ 8) : XS G K pc (p3 + 1) pb pk (sAI 20 aa ii ee) := by
  refine ys3 h1 wA h2 wI h3 h8 (fun env M r env' M' h => ?_)
  obtain ⟨x, g1, g2⟩ := bnd h
  obtain ⟨q, g3, g4⟩ := bnd g2
  obtain ⟨z, g5, g6⟩ := bnd g4
  split at g6
  · rename_i htg
    cases g6
    refine ⟨x, q, z, g1, g3, g5, rfl, rfl, rfl, fun w mt b vF MF hm ls H locs cells slots o kk => ?_⟩
    obtain ⟨h24, hc⟩ := o.1.arr htg.1 (by decide)
    have hin : ¬ (q.1 < 0 ∨ (tg z.2 x.1).2 ≤ q.1.toNatClampNeg) := of_decide_eq_true htg.2
    have hB := (o.1.2.2.2 x.1 (by rw [htg.1]; decide)).1
    have hfin : ∀ H' : Heap, H'[x.1]? = some ((arrV (gA G 20) (tg z.2 x.1).2 (fv (fun _ => aT 20) z.2 x.1)).setSlot q.1.toNatClampNeg (.int z.1)) → H'.size = H.size → (∀ j, j ≠ x.1 → H'[j]? = H[j]?) → w H' (locs ++ [⟨x.1, q.1.toNatClampNeg⟩]) cells slots (F0 mt (p3 + 1) ls []) := by
      intro H' e1 e2 e3
      refine kk H' _ (o.st (o.1.ast (M' := pI z.2 x.1 q.1.toNatClampNeg (nar 20 z.1)) htg.1 (by decide) rfl rfl (fun ty c j hc => fv_pI_ne hc j) (fun j => ?_) e2 e3 e1) rfl hB)
      exact fv_pI rfl j
    obtain ⟨p, e, R, s, args, below, meth, c, Q, rfl, hx, hb, hml, hown, hK, hnm, hR1, hR2, hR3, hR4, hret⟩ := hm
    exact W.iast hx hb hc ((hK.2.2.2.1 20 (by decide) (by decide)).1 _ _) (fun q => by cases q) (by rw [arrV_size]; exact hin) rfl rfl hd hfin
  · cases g6
theorem y_AB {d1 d2 d3 pc p1 p2 p3 pb pk : Nat} {aa : Ev Nat} {ii : Ev Int32} {ee : Ev Int32} (h1 : XP G K d1 pc p1 piA aa) (h2 : XP G K d2 p1 p2 piI ii) (h3 : XP G K d3 p2 p3 piI ee) (hd : decode (kC K) p3 = .ok (.bastore, 1)) (h8 : max d1 (max (d2 + 1) (d3 + 1 + 1)) ≤ 8) : XS G K pc (p3 + 1) pb pk (sAI 22 aa ii ee) := by
  refine ys3 h1 wA h2 wI h3 h8 (fun env M r env' M' h => ?_)
  obtain ⟨x, g1, g2⟩ := bnd h
  obtain ⟨q, g3, g4⟩ := bnd g2
  obtain ⟨z, g5, g6⟩ := bnd g4
  split at g6
  · rename_i htg
    cases g6
    refine ⟨x, q, z, g1, g3, g5, rfl, rfl, rfl, fun w mt b vF MF hm ls H locs cells slots o kk => ?_⟩
    obtain ⟨h24, hc⟩ := o.1.arr htg.1 (by decide)
    have hin : ¬ (q.1 < 0 ∨ (tg z.2 x.1).2 ≤ q.1.toNatClampNeg) := of_decide_eq_true htg.2
    have hB := (o.1.2.2.2 x.1 (by rw [htg.1]; decide)).1
    have hfin : ∀ H' : Heap, H'[x.1]? = some ((arrV (gA G 22) (tg z.2 x.1).2 (fv (fun _ => aT 22) z.2 x.1)).setSlot q.1.toNatClampNeg (narrow .byte (.int z.1))) → H'.size = H.size → (∀ j, j ≠ x.1 → H'[j]? = H[j]?) → w H' (locs ++ [⟨x.1, q.1.toNatClampNeg⟩]) cells slots (F0 mt (p3 + 1) ls []) := by
      intro H' e1 e2 e3
      refine kk H' _ (o.st (o.1.ast (M' := pI z.2 x.1 q.1.toNatClampNeg (nar 22 z.1)) htg.1 (by decide) rfl rfl (fun ty c j hc => fv_pI_ne hc j) (fun j => ?_) e2 e3 e1) rfl hB)
      exact fv_pI rfl j
    obtain ⟨p, e, R, s, args, below, meth, c, Q, rfl, hx, hb, hml, hown, hK, hnm, hR1, hR2, hR3, hR4, hret⟩ := hm
    exact W.bast hx hb hc ((hK.2.2.2.1 22 (by decide) (by decide)).1 _ _) (fun q => by cases q) (by rw [arrV_size]; exact hin) rfl rfl hd hfin
  · cases g6
theorem y_AZ {d1 d2 d3 pc p1 p2 p3 pb pk : Nat} {aa : Ev Nat} {ii : Ev Int32} {ee : Ev Int32} (h1 : XP G K d1 pc p1 piA aa) (h2 : XP G K d2 p1 p2 piI ii) (h3 : XP G K d3 p2 p3 piI ee) (hd : decode (kC K) p3 = .ok (.bastore, 1)) (h8 : max d1 (max (d2 + 1) (d3 + 1 + 1)) ≤ 8) : XS G K pc (p3 + 1) pb pk (sAI 23 aa ii ee) := by
  refine ys3 h1 wA h2 wI h3 h8 (fun env M r env' M' h => ?_)
  obtain ⟨x, g1, g2⟩ := bnd h
  obtain ⟨q, g3, g4⟩ := bnd g2
  obtain ⟨z, g5, g6⟩ := bnd g4
  split at g6
  · rename_i htg
    cases g6
    refine ⟨x, q, z, g1, g3, g5, rfl, rfl, rfl, fun w mt b vF MF hm ls H locs cells slots o kk => ?_⟩
    obtain ⟨h24, hc⟩ := o.1.arr htg.1 (by decide)
    have hin : ¬ (q.1 < 0 ∨ (tg z.2 x.1).2 ≤ q.1.toNatClampNeg) := of_decide_eq_true htg.2
    have hB := (o.1.2.2.2 x.1 (by rw [htg.1]; decide)).1
    have hfin : ∀ H' : Heap, H'[x.1]? = some ((arrV (gA G 23) (tg z.2 x.1).2 (fv (fun _ => aT 23) z.2 x.1)).setSlot q.1.toNatClampNeg (narrow .boolean (.int z.1))) → H'.size = H.size → (∀ j, j ≠ x.1 → H'[j]? = H[j]?) → w H' (locs ++ [⟨x.1, q.1.toNatClampNeg⟩]) cells slots (F0 mt (p3 + 1) ls []) := by
      intro H' e1 e2 e3
      refine kk H' _ (o.st (o.1.ast (M' := pI z.2 x.1 q.1.toNatClampNeg (nar 23 z.1)) htg.1 (by decide) rfl rfl (fun ty c j hc => fv_pI_ne hc j) (fun j => ?_) e2 e3 e1) rfl hB)
      exact fv_pI rfl j
    obtain ⟨p, e, R, s, args, below, meth, c, Q, rfl, hx, hb, hml, hown, hK, hnm, hR1, hR2, hR3, hR4, hret⟩ := hm
    exact W.zast hx hb hc ((hK.2.2.2.1 23 (by decide) (by decide)).1 _ _) (fun q => by cases q) (by rw [arrV_size]; exact hin) rfl rfl hd hfin
  · cases g6
theorem y_AL {d1 d2 d3 pc p1 p2 p3 pb pk : Nat} {aa : Ev Nat} {ii : Ev Int32} {ee : Ev Int64} (h1 : XP G K d1 pc p1 piA aa) (h2 : XP G K d2 p1 p2 piI ii) (h3 : XP G K d3 p2 p3 piL ee) (hd : decode (kC K) p3 = .ok (.lastore, 1)) (h8 : max d1 (max (d2 + 1) (d3 + 1 + 1)) ≤ 8) : XS G K pc (p3 + 1) pb pk (sAL aa ii ee) := by
  refine ys3 h1 wA h2 wI h3 h8 (fun env M r env' M' h => ?_)
  obtain ⟨x, g1, g2⟩ := bnd h
  obtain ⟨q, g3, g4⟩ := bnd g2
  obtain ⟨z, g5, g6⟩ := bnd g4
  split at g6
  · rename_i htg
    cases g6
    refine ⟨x, q, z, g1, g3, g5, rfl, rfl, rfl, fun w mt b vF MF hm ls H locs cells slots o kk => ?_⟩
    obtain ⟨h24, hc⟩ := o.1.arr htg.1 (by decide)
    have hin : ¬ (q.1 < 0 ∨ (tg z.2 x.1).2 ≤ q.1.toNatClampNeg) := of_decide_eq_true htg.2
    have hB := (o.1.2.2.2 x.1 (by rw [htg.1]; decide)).1
    have hfin : ∀ H' : Heap, H'[x.1]? = some ((arrV (gA G 21) (tg z.2 x.1).2 (fv (fun _ => aT 21) z.2 x.1)).setSlot q.1.toNatClampNeg (.long z.1)) → H'.size = H.size → (∀ j, j ≠ x.1 → H'[j]? = H[j]?) → w H' (locs ++ [⟨x.1, q.1.toNatClampNeg⟩]) cells slots (F0 mt (p3 + 1) ls []) := by
      intro H' e1 e2 e3
      refine kk H' _ (o.st (o.1.ast (M' := pL z.2 x.1 q.1.toNatClampNeg z.1) htg.1 (by decide) rfl rfl (fun ty c j hc => fv_pL_ne hc j) (fun j => ?_) e2 e3 e1) rfl hB)
      exact fv_pL rfl j
    obtain ⟨p, e, R, s, args, below, meth, c, Q, rfl, hx, hb, hml, hown, hK, hnm, hR1, hR2, hR3, hR4, hret⟩ := hm
    exact W.last hx hb hc ((hK.2.2.2.1 21 (by decide) (by decide)).1 _ _) (fun q => by cases q) (by rw [arrV_size]; exact hin) rfl rfl hd hfin
  · cases g6
theorem y_AR {d1 d2 d3 pc p1 p2 p3 pb pk : Nat} {aa : Ev Nat} {ii : Ev Int32} {ee : Ev Nat} (h1 : XP G K d1 pc p1 piA aa) (h2 : XP G K d2 p1 p2 piI ii) (h3 : XP G K d3 p2 p3 piA ee) (hd : decode (kC K) p3 = .ok (.aastore, 1)) (h8 : max d1 (max (d2 + 1) (d3 + 1 + 1)) ≤ 8) : XS G K pc (p3 + 1) pb pk (sAR aa ii ee) := by
  refine ys3 h1 wA h2 wI h3 h8 (fun env M r env' M' h => ?_)
  obtain ⟨x, g1, g2⟩ := bnd h
  obtain ⟨q, g3, g4⟩ := bnd g2
  obtain ⟨z, g5, g6⟩ := bnd g4
  split at g6
  · rename_i htg
    cases g6
    refine ⟨x, q, z, g1, g3, g5, rfl, rfl, rfl, fun w mt b vF MF hm ls H locs cells slots o kk => ?_⟩
    obtain ⟨h24, hc⟩ := o.1.arr htg.1 (by decide)
    have hin : ¬ (q.1 < 0 ∨ (tg z.2 x.1).2 ≤ q.1.toNatClampNeg) := of_decide_eq_true htg.2.1
    have hB := (o.1.2.2.2 x.1 (by rw [htg.1]; decide)).1
    have hq3 : cT[3]? = some ((RX3, TX3, 5), tyX3) := rfl
    obtain ⟨cellV, v1, v2, v3, -⟩ := o.1.obj (t := 3) htg.2.2 hq3
    have hfin : ∀ H' : Heap, H'[x.1]? = some ((arrV (gA G 24) (tg z.2 x.1).2 (fv (fun _ => aT 24) z.2 x.1)).setSlot q.1.toNatClampNeg (.ref z.1)) → H'.size = H.size → (∀ j, j ≠ x.1 → H'[j]? = H[j]?) → w H' (locs ++ [⟨x.1, q.1.toNatClampNeg⟩]) cells slots (F0 mt (p3 + 1) ls []) := by
      intro H' e1 e2 e3
      refine kk H' _ (o.st (o.1.ast (M' := pR z.2 x.1 q.1.toNatClampNeg (some z.1)) htg.1 (by decide) rfl rfl (fun ty c j hc => fv_pR_ne hc j) (fun j => ?_) e2 e3 e1) rfl hB)
      exact fv_pR (x := some z.1) rfl j
    obtain ⟨p, e, R, s, args, below, meth, c, Q, rfl, hx, hb, hml, hown, hK, hnm, hR1, hR2, hR3, hR4, hret⟩ := hm
    have hcls := (hK.2.2.1 3 _ hq3).2
    obtain ⟨kA, comp, k1, k2, k3, -⟩ := (hK.2.2.2.1 24 (by decide) (by decide)).2
    have hcomp : comp = gC G 3 := Option.some.inj (k3.symm.trans hcls.1)
    subst hcomp
    obtain ⟨kC1, hkC, -⟩ := hcls.2
    exact W.aast hx hb hc (fun q h => by cases h) (fun h => by cases h) k1 k2 rfl hkC ⟨fun h => hin (Or.inl h), by rw [arrV_size]; exact Nat.not_le.mp fun h => hin (Or.inr h)⟩ v1 (fun q h => by rw [v3] at h; cases h) (by rw [v2]; exact hkC) (by rw [v2]; exact va_assign hcls) rfl rfl hd hfin
  · cases g6
/-- o.f = g (o.f) e -/
theorem y_UpI {d1 d2 pc p1 p2 pb pk t k ig ip : Nat} {oo : Ev Nat} {ee : Ev Int32} {g : Int32 → Int32 → Int32} (h1 : XP G K d1 pc p1 piA oo) (hdu : decode (kC K) p1 = .ok (.dup, 1)) (hdg : decode (kC K) (p1 + 1) = .ok (.getfield ig, 3)) (hfg : FL (kY K).cls ig t k .int) (h2 : XP G K d2 (p1 + 1 + 3) p2 piI ee) (hop : Op2 G K p2 (p2 + 1) piI piI piI g) (hdp : decode (kC K) (p2 + 1) = .ok (.putfield ip, 3)) (hfp : FL (kY K).cls ip t k .int) (hfw : FW K ip t k) (h8 : max d1 (d2 + 2) ≤ 8) : XS G K pc (p2 + 1 + 3) pb pk (sUpI (t + 1) k oo g ee) := by
  have inv : ∀ env M r env' M', sUpI (t + 1) k oo g ee env M = some (r, env', M') → ∃ x q, oo env M = some x ∧ (tg x.2 x.1).1 = t + 1 ∧ ee env x.2 = some q ∧ (tg q.2 x.1).1 = t + 1 ∧ r = .inl 0 ∧ env' = env ∧ M' = pI q.2 x.1 k (g (vi x.2 x.1 k) q.1) := by
    intro env M r env' M' h
    obtain ⟨x, g1, g2⟩ := bnd h
    split at g2
    · rename_i ht
      obtain ⟨q, g3, g4⟩ := bnd g2
      split at g4
      · rename_i ht2
        cases g4
        exact ⟨x, q, g1, ht, g3, ht2, rfl, rfl, rfl⟩
      · cases g4
    · cases g2
  refine ⟨fun env M r env' M' h => ?_, ?_⟩
  · obtain ⟨x, q, g1, g2, g3, g4, -, -, rfl⟩ := inv env M r env' M' h
    have a1 := h1.1 env M x.1 x.2 g1
    have a2 := h2.1 env x.2 q.1 q.2 g3
    have e1 : mN (pI q.2 x.1 k (g (vi x.2 x.1 k) q.1)) = mN q.2 := rfl
    have e2 : mU (pI q.2 x.1 k (g (vi x.2 x.1 k) q.1)) = mU q.2 := rfl
    exact ⟨by omega, by omega⟩
  · intro w mt b vF MF hm env M r env' M' hf hn hu hrt ls H locs cells slots hl ho kk
    obtain ⟨x, q, g1, g2, g3, g4, rfl, rfl, rfl⟩ := inv env M r env' M' hf
    have a2 := h2.1 env' x.2 q.1 q.2 g3
    have e1 : mN (pI q.2 x.1 k (g (vi x.2 x.1 k) q.1)) = mN q.2 := rfl
    have e2 : mU (pI q.2 x.1 k (g (vi x.2 x.1 k) q.1)) = mU q.2 := rfl
    have w0 : wt ([] : List Value) = 0 := rfl
    refine h1.2 w mt b vF MF hm env' M x.1 x.2 g1 (by omega) (by omega) [] ls H locs cells slots (by omega) hl ho (fun H' l' c' s' o' => ?_)
    have hdup : ∀ (a : Nat) (st : List Value), w H' l' c' s' (F0 mt (p1 + 1) ls (.ref a :: .ref a :: st)) → w H' l' c' s' (F0 mt p1 ls (.ref a :: st)) := by
      intro a st kk'
      obtain ⟨p, e, R, s, args, below, meth, c, Q, rfl, hx, hb, hml, hown, hK, hnm, hR1, hR2, hR3, hR4, hret⟩ := hm
      exact lv_dup hx hb hdu rfl kk'
    refine hdup x.1 [] ?_
    refine fget hfg hdg w mt b vF MF hm x.2 x.1 (.ref x.1 :: []) ls H' l' c' s' o'.1 g2 ?_
    rw [fv_I rfl]
    refine h2.2 w mt b vF MF hm env' x.2 q.1 q.2 g3 (by omega) (by omega) (.int (vi x.2 x.1 k) :: .ref x.1 :: []) ls H' l' c' s' (by simp [wt, Value.category]; omega) hl o' (fun H'' l'' c'' s'' o'' => ?_)
    refine hop w mt b vF MF hm (vi x.2 x.1 k) q.1 (.ref x.1 :: []) ls H'' l'' c'' s'' ?_
    exact fput hfp hfw hdp w mt b vF MF hm q.2 (pI q.2 x.1 k (g (vi x.2 x.1 k) q.1)) x.1 (.int (g (vi x.2 x.1 k) q.1)) [] ls H'' l'' c'' s'' o'' g4 rfl rfl rfl rfl (fun ty c j hc => fv_pI_ne hc j) (fun tf j htf => fv_pI (by rw [htf]; rfl) j) (fun H3 l3 o3 => kk _ rfl ls H3 l3 c'' s'' hl o3)
/-- a[i] = g (a[i]) e -/
theorem y_UA {d1 d2 d3 pc p1 p2 p3 pb pk : Nat} {aa : Ev Nat} {ii ee : Ev Int32} {g : Int32 → Int32 → Int32} (h1 : XP G K d1 pc p1 piA aa) (h2 : XP G K d2 p1 p2 piI ii) (hdu : decode (kC K) p2 = .ok (.dup2, 1)) (hdl : decode (kC K) (p2 + 1) = .ok (.iaload, 1)) (h3 : XP G K d3 (p2 + 1 + 1) p3 piI ee) (hop : Op2 G K p3 (p3 + 1) piI piI piI g) (hds : decode (kC K) (p3 + 1) = .ok (.iastore, 1)) (h8 : max d1 (max (d2 + 1) (d3 + 3)) ≤ 8) : XS G K pc (p3 + 1 + 1) pb pk (sUA aa ii g ee) := by
  have inv : ∀ env M r env' M', sUA aa ii g ee env M = some (r, env', M') → ∃ x q z, aa env M = some x ∧ ii env x.2 = some q ∧ ((tg q.2 x.1).1 = 20 ∧ inb q.1 (tg q.2 x.1).2 = true) ∧ ee env q.2 = some z ∧ ((tg z.2 x.1).1 = 20 ∧ inb q.1 (tg z.2 x.1).2 = true) ∧ r = .inl 0 ∧ env' = env ∧ M' = pI z.2 x.1 q.1.toNatClampNeg (g (vi q.2 x.1 q.1.toNatClampNeg) z.1) := by
    intro env M r env' M' h
    obtain ⟨x, g1, g2⟩ := bnd h
    obtain ⟨q, g3, g4⟩ := bnd g2
    split at g4
    · rename_i ht
      obtain ⟨z, g5, g6⟩ := bnd g4
      split at g6
      · rename_i ht2
        cases g6
        exact ⟨x, q, z, g1, g3, ht, g5, ht2, rfl, rfl, rfl⟩
      · cases g6
    · cases g4
  refine ⟨fun env M r env' M' h => ?_, ?_⟩
  · obtain ⟨x, q, z, g1, g2, g3, g4, g5, -, -, rfl⟩ := inv env M r env' M' h
    have a1 := h1.1 env M x.1 x.2 g1
    have a2 := h2.1 env x.2 q.1 q.2 g2
    have a3 := h3.1 env q.2 z.1 z.2 g4
    have e1 : mN (pI z.2 x.1 q.1.toNatClampNeg (g (vi q.2 x.1 q.1.toNatClampNeg) z.1)) = mN z.2 := rfl
    have e2 : mU (pI z.2 x.1 q.1.toNatClampNeg (g (vi q.2 x.1 q.1.toNatClampNeg) z.1)) = mU z.2 := rfl
    exact ⟨by omega, by omega⟩
  · intro w mt b vF MF hm env M r env' M' hf hn hu hrt ls H locs cells slots hl ho kk
    obtain ⟨x, q, z, g1, g2, g3, g4, g5, rfl, rfl, rfl⟩ := inv env M r env' M' hf
    have a2 := h2.1 env' x.2 q.1 q.2 g2
    have a3 := h3.1 env' q.2 z.1 z.2 g4
    have e1 : mN (pI z.2 x.1 q.1.toNatClampNeg (g (vi q.2 x.1 q.1.toNatClampNeg) z.1)) = mN z.2 := rfl
    have e2 : mU (pI z.2 x.1 q.1.toNatClampNeg (g (vi q.2 x.1 q.1.toNatClampNeg) z.1)) = mU z.2 := rfl
    have w0 : wt ([] : List Value) = 0 := rfl
    refine h1.2 w mt b vF MF hm env' M x.1 x.2 g1 (by omega) (by omega) [] ls H locs cells slots (by omega) hl ho (fun H' l' c' s' o' => ?_)
    refine h2.2 w mt b vF MF hm env' x.2 q.1 q.2 g2 (by omega) (by omega) (.ref x.1 :: []) ls H' l' c' s' (by simp [wt, Value.category]; omega) hl o' (fun H'' l'' c'' s'' o'' => ?_)
    have hmid : w H'' l'' c'' s'' (F0 mt (p2 + 1 + 1) ls (.int (vi q.2 x.1 q.1.toNatClampNeg) :: .int q.1 :: .ref x.1 :: [])) → w H'' l'' c'' s'' (F0 mt p2 ls (.int q.1 :: .ref x.1 :: [])) := by
      intro kk'
      obtain ⟨h24, hc⟩ := o''.1.arr g3.1 (by decide)
      have hin : ¬ (q.1 < 0 ∨ (tg q.2 x.1).2 ≤ q.1.toNatClampNeg) := of_decide_eq_true g3.2
      have hlt : q.1.toNatClampNeg < (tg q.2 x.1).2 := Nat.not_le.mp fun z => hin (Or.inr z)
      obtain ⟨p, e, R, s, args, below, meth, c, Q, rfl, hx, hb, hml, hown, hK, hnm, hR1, hR2, hR3, hR4, hret⟩ := hm
      refine lv_dup2_11 hx hb hdu rfl rfl ?_
      exact W.iald hx hb hc ((hK.2.2.2.1 20 (by decide) (by decide)).1 _ _) (fun q => by cases q) (by rw [arrV_size]; exact hin) (by rw [arrV_read _ _ hlt]; rfl) rfl rfl hdl kk'
    refine hmid ?_
    refine h3.2 w mt b vF MF hm env' q.2 z.1 z.2 g4 (by omega) (by omega) (.int (vi q.2 x.1 q.1.toNatClampNeg) :: .int q.1 :: .ref x.1 :: []) ls H'' l'' c'' s'' (by simp [wt, Value.category]; omega) hl o'' (fun H3 l3 c3 s3 o3 => ?_)
    refine hop w mt b vF MF hm (vi q.2 x.1 q.1.toNatClampNeg) z.1 (.int q.1 :: .ref x.1 :: []) ls H3 l3 c3 s3 ?_
    obtain ⟨h24, hc⟩ := o3.1.arr g5.1 (by decide)
    have hin : ¬ (q.1 < 0 ∨ (tg z.2 x.1).2 ≤ q.1.toNatClampNeg) := of_decide_eq_true g5.2
    have hB := (o3.1.2.2.2 x.1 (by rw [g5.1]; decide)).1
    have hfin : ∀ H' : Heap, H'[x.1]? = some ((arrV (gA G 20) (tg z.2 x.1).2 (fv (fun _ => aT 20) z.2 x.1)).setSlot q.1.toNatClampNeg (.int (g (vi q.2 x.1 q.1.toNatClampNeg) z.1))) → H'.size = H3.size → (∀ j, j ≠ x.1 → H'[j]? = H3[j]?) → w H' (l3 ++ [⟨x.1, q.1.toNatClampNeg⟩]) c3 s3 (F0 mt (p3 + 1 + 1) ls []) := by
      intro H' e1 e2 e3
      refine kk _ rfl ls H' _ c3 s3 hl (o3.st (o3.1.ast (M' := pI z.2 x.1 q.1.toNatClampNeg (g (vi q.2 x.1 q.1.toNatClampNeg) z.1)) g5.1 (by decide) rfl rfl (fun ty c j hc => fv_pI_ne hc j) (fun j => ?_) e2 e3 e1) rfl hB)
      exact fv_pI rfl j
    obtain ⟨p, e, R, s, args, below, meth, c, Q, rfl, hx, hb, hml, hown, hK, hnm, hR1, hR2, hR3, hR4, hret⟩ := hm
    exact W.iast hx hb hc ((hK.2.2.2.1 20 (by decide) (by decide)).1 _ _) (fun q => by cases q) (by rw [arrV_size]; exact hin) rfl rfl hds hfin
/-- loops -/
theorem yLoop {d p0 pt pf pu q1 q2 pb pk : Nat} {c : Ev Bool} {a u : Sv} (hc : XC G K d p0 pt pf c) (h8 : d ≤ 8) (ha : XS G K pt pu pf pu a) (hup : XS G K pu p0 q1 q2 u) : XS G K p0 pf pb pk (sLoop c a u) := by
  have inv : ∀ env M (o : (qE × qM) ⊕ (Re × qE × qM)), lStep c a u (env, M) = some o → ∃ r, c env M = some r ∧ ((r.1 = false ∧ o = .inr (.inl 0, env, r.2)) ∨ (r.1 = true ∧ ∃ q, a env r.2 = some q ∧ (((q.1 = .inl 0 ∨ q.1 = .inl 2) ∧ ∃ z, u q.2.1 q.2.2 = some (.inl 0, z) ∧ o = .inl z) ∨ (q.1 = .inl 1 ∧ o = .inr (.inl 0, q.2)) ∨ ∃ v, q.1 = .inr v ∧ o = .inr (.inr v, q.2)))) := by
    intro env M o h
    unfold lStep at h
    obtain ⟨r, h1, h2⟩ := bnd h
    refine ⟨r, h1, ?_⟩
    split at h2
    · rename_i hr
      obtain ⟨q, h3, h4⟩ := bnd h2
      refine Or.inr ⟨hr, q, h3, ?_⟩
      split at h4
      · rename_i hq
        obtain ⟨z, h5, h6⟩ := bnd h4
        obtain ⟨z1, z2⟩ := z
        split at h6
        · rename_i hz; cases h6; dsimp only at hz; subst hz; exact Or.inl ⟨Or.inl hq, z2, h5, rfl⟩
        · cases h6
      · rename_i hq
        obtain ⟨z, h5, h6⟩ := bnd h4
        obtain ⟨z1, z2⟩ := z
        split at h6
        · rename_i hz; cases h6; dsimp only at hz; subst hz; exact Or.inl ⟨Or.inr hq, z2, h5, rfl⟩
        · cases h6
      · rename_i hq; cases h4; exact Or.inr (Or.inl ⟨hq, rfl⟩)
      · rename_i v hq; cases h4; exact Or.inr (Or.inr ⟨v, hq, rfl⟩)
      · cases h4
    · rename_i hr
      cases h2
      exact Or.inl ⟨by simpa using hr, rfl⟩
  have mono : ∀ (n : Nat) env M r env' M', iter (lStep c a u) n (env, M) = some (r, env', M') → mN M ≤ mN M' ∧ mU M ≤ mU M' := by
    intro n
    induction n with
    | zero => intro env M r env' M' h; simp [iter] at h
    | succ n ih =>
      intro env M r env' M' h
      simp only [iter] at h
      split at h
      · cases h
      · rename_i y hy
        cases h
        obtain ⟨z, h1, h2⟩ := inv env M _ hy
        have a1 := hc.1 env M z.1 z.2 h1
        rcases h2 with ⟨-, h2⟩ | ⟨-, ⟨q1', q2, q3⟩, h3, h4⟩
        · cases h2; exact a1
        · have a2 := ha.1 env z.2 q1' q2 q3 h3
          rcases h4 with ⟨-, z, -, h5⟩ | ⟨-, h5⟩ | ⟨v, -, h5⟩
          · cases h5
          · cases h5; exact ⟨by omega, by omega⟩
          · cases h5; exact ⟨by omega, by omega⟩
      · rename_i y hy
        obtain ⟨z, h1, h2⟩ := inv env M _ hy
        have a1 := hc.1 env M z.1 z.2 h1
        rcases h2 with ⟨-, h2⟩ | ⟨-, ⟨q1', q2, q3⟩, h3, h4⟩
        · cases h2
        · have a2 := ha.1 env z.2 q1' q2 q3 h3
          rcases h4 with ⟨-, z', h6, h5⟩ | ⟨-, h5⟩ | ⟨v, -, h5⟩
          · cases h5
            have a3 := hup.1 q2 q3 _ y.1 y.2 h6
            have a4 := ih y.1 y.2 r env' M' h
            exact ⟨by omega, by omega⟩
          · cases h5
          · cases h5
  refine ⟨fun env M r env' M' h => ?_, ?_⟩
  · obtain ⟨n, hn⟩ := loopR_iff.mp h
    exact mono n env M r env' M' hn
  · intro w mt b vF MF hm env M r env' M' hf hn hu hrt ls H locs cells slots hl ho kk
    obtain ⟨n, hi⟩ := loopR_iff.mp hf
    clear hf
    induction n generalizing env M ls H locs cells slots with
    | zero => simp [iter] at hi
    | succ n ih =>
      have hi0 := hi
      simp only [iter] at hi
      have w0 : wt ([] : List Value) = 0 := rfl
      split at hi
      · cases hi
      · rename_i y hy
        cases hi
        obtain ⟨z, h1, h2⟩ := inv env M _ hy
        rcases h2 with ⟨hz, h2⟩ | ⟨hz, q, h3, h4⟩
        · cases h2
          refine hc.2 w mt b vF MF hm _ M z.1 z.2 h1 hn hu [] ls H locs cells slots (by omega) hl ho (fun H' l' c' s' o' => ?_)
          rw [hz, if_neg (by decide)]
          exact kk pf rfl ls H' l' c' s' hl o'
        · have a2 := ha.1 env z.2 q.1 q.2.1 q.2.2 h3
          rcases h4 with ⟨-, z', -, h5⟩ | ⟨hq, h5⟩ | ⟨v, hq, h5⟩
          · cases h5
          · obtain ⟨q1, q2, q3⟩ := q
            cases h5
            dsimp only at hq a2
            subst hq
            refine hc.2 w mt b vF MF hm env M z.1 z.2 h1 (by omega) (by omega) [] ls H locs cells slots (by omega) hl ho (fun H' l' c' s' o' => ?_)
            rw [hz, if_pos rfl]
            exact ha.2 w mt b vF MF hm env z.2 _ env' M' h3 hn hu (fun v hv => by cases hv) ls H' l' c' s' hl o' (fun t hex => by cases hex; exact kk pf rfl)
          · obtain ⟨q1, q2, q3⟩ := q
            cases h5
            dsimp only at hq a2
            subst hq
            refine hc.2 w mt b vF MF hm env M z.1 z.2 h1 (by omega) (by omega) [] ls H locs cells slots (by omega) hl ho (fun H' l' c' s' o' => ?_)
            rw [hz, if_pos rfl]
            exact ha.2 w mt b vF MF hm env z.2 _ env' M' h3 hn hu hrt ls H' l' c' s' hl o' (fun t hex => by cases hex)
      · rename_i y hy
        obtain ⟨z, h1, h2⟩ := inv env M _ hy
        rcases h2 with ⟨-, h2⟩ | ⟨hz, q, h3, h4⟩
        · cases h2
        · have a2 := ha.1 env z.2 q.1 q.2.1 q.2.2 h3
          rcases h4 with ⟨hq, z', h6, h5⟩ | ⟨-, h5⟩ | ⟨v, -, h5⟩
          · cases h5
            obtain ⟨q1, q2, q3⟩ := q
            dsimp only at hq a2 h6
            have a3 := hup.1 q2 q3 _ y.1 y.2 h6
            have a4 := mono n y.1 y.2 r env' M' hi
            refine hc.2 w mt b vF MF hm env M z.1 z.2 h1 (by omega) (by omega) [] ls H locs cells slots (by omega) hl ho (fun H' l' c' s' o' => ?_)
            rw [hz, if_pos rfl]
            refine ha.2 w mt b vF MF hm env z.2 _ q2 q3 h3 (by omega) (by omega) (fun v hv => by rcases hq with h | h <;> (rw [h] at hv; cases hv)) ls H' l' c' s' hl o' (fun t hex ls' H'' l'' c'' s'' hl' o'' => ?_)
            have ht : t = pu := by rcases hq with h | h <;> (rw [h] at hex; cases hex; rfl)
            subst ht
            refine hup.2 w mt b vF MF hm q2 q3 _ y.1 y.2 h6 (by omega) (by omega) (fun v hv => by cases hv) ls' H'' l'' c'' s'' hl' o'' (fun t2 hex2 ls3 H3 l3 c3 s3 hl3 o3 => ?_)
            cases hex2
            exact ih y.1 y.2 ls3 H3 l3 c3 s3 hl3 o3 hi
          · cases h5
          · cases h5
theorem ySw {d pc p1 pd pn pb pk len : Nat} {dflt lo hi : Int} {offs : Array Int} {ee : Ev Int32} {bs : List Sv} {dd : Sv} (he : XP G K d pc p1 piI ee) (h8 : d ≤ 8) (hd : decode (kC K) p1 = .ok (.tableswitch dflt lo hi offs, len)) (hpd : (p1 : Int) + dflt = (pd : Int)) (hhi : hi = lo + bs.length - 1) (hdf : XS G K pd pn pb pk dd) (hbs : ∀ (i : Nat) (s : Sv), bs[i]? = some s → ∃ (off : Int) (tgt : Nat), offs[i]? = some off ∧ (p1 : Int) + off = (tgt : Int) ∧ XS G K tgt pn pb pk s) : XS G K pc pn pb pk (sSw ee lo bs dd) := by
  have inv : ∀ env M r env' M', sSw ee lo bs dd env M = some (r, env', M') → ∃ x, ee env M = some x ∧ ((x.1.toInt < lo ∨ hi < x.1.toInt) ∧ dd env x.2 = some (r, env', M') ∨ (¬ x.1.toInt < lo ∧ ¬ hi < x.1.toInt ∧ ∃ s, bs[(x.1.toInt - lo).toNat]? = some s ∧ s env x.2 = some (r, env', M'))) := by
    intro env M r env' M' h
    obtain ⟨x, g1, g2⟩ := bnd h
    refine ⟨x, g1, ?_⟩
    split at g2
    · rename_i hlt; exact Or.inl ⟨Or.inl hlt, g2⟩
    · rename_i hlt
      by_cases hb : hi < x.1.toInt
      · refine Or.inl ⟨Or.inr hb, ?_⟩
        have : bs[(x.1.toInt - lo).toNat]? = none := List.getElem?_eq_none (by omega)
        rw [this] at g2
        exact g2
      · refine Or.inr ⟨hlt, hb, ?_⟩
        have hl : (x.1.toInt - lo).toNat < bs.length := by omega
        rw [List.getElem?_eq_getElem hl] at g2 ⊢
        exact ⟨_, rfl, g2⟩
  refine ⟨fun env M r env' M' h => ?_, ?_⟩
  · obtain ⟨x, g1, g2⟩ := inv env M r env' M' h
    have a1 := he.1 env M x.1 x.2 g1
    rcases g2 with ⟨-, g2⟩ | ⟨-, -, s, g2, g3⟩
    · have a2 := hdf.1 _ _ _ _ _ g2
      exact ⟨by omega, by omega⟩
    · obtain ⟨off, tgt, -, -, hs⟩ := hbs _ _ g2
      have a2 := hs.1 _ _ _ _ _ g3
      exact ⟨by omega, by omega⟩
  · intro w mt b vF MF hm env M r env' M' hf hn hu hrt ls H locs cells slots hl ho kk
    obtain ⟨x, g1, g2⟩ := inv env M r env' M' hf
    have w0 : wt ([] : List Value) = 0 := rfl
    rcases g2 with ⟨hx0, g2⟩ | ⟨hx1, hx2, s0, g2, g3⟩
    · have a2 := hdf.1 _ _ _ _ _ g2
      refine he.2 w mt b vF MF hm env M x.1 x.2 g1 (by omega) (by omega) [] ls H locs cells slots (by omega) hl ho (fun H' l' c' s' o' => ?_)
      have hk := hdf.2 w mt b vF MF hm env x.2 r env' M' g2 hn hu hrt ls H' l' c' s' hl o' kk
      obtain ⟨p, e, R, s, args, below, meth, c, Q, rfl, hx, hb, hml, hown, hK, hnm, hR1, hR2, hR3, hR4, hret⟩ := hm
      exact lv_tableOut hx hb hd hx0 hpd hk
    · obtain ⟨off, tgt, ho1, ho2, hs⟩ := hbs _ _ g2
      have a2 := hs.1 _ _ _ _ _ g3
      refine he.2 w mt b vF MF hm env M x.1 x.2 g1 (by omega) (by omega) [] ls H locs cells slots (by omega) hl ho (fun H' l' c' s' o' => ?_)
      have hk := hs.2 w mt b vF MF hm env x.2 r env' M' g3 hn hu hrt ls H' l' c' s' hl o' kk
      obtain ⟨p, e, R, s, args, below, meth, c, Q, rfl, hx, hb, hml, hown, hK, hnm, hR1, hR2, hR3, hR4, hret⟩ := hm
      exact lv_tableIn hx hb hd hx1 hx2 ho1 ho2 hk
/-- super() of a class that extends Object -/
def sSup : Sv := fun (env : qE) M => match (env[0]? : Option Value) with | some (Value.ref _) => some (.inl 0, env, M) | _ => none
theorem y_sup {pc idx pb pk : Nat} (hd0 : decode (kC K) pc = .ok (.aload_n 0, 1)) (hd1 : decode (kC K) (pc + 1) = .ok (.invokespecial idx, 3)) (hlk : Cond.methodLink (kY K).cls idx Lib.objectInit ∈ TBL) (hi : Cond.instanceMethod Lib.objectInit ∈ TBL) (hcd : Cond.code Lib.objectInit ⟨#[0xb1]⟩ 1 none ∈ TBL) (hfr : 1 ≤ kF K) (hlo : 12 ≤ kO K) : XS G K pc (pc + 1 + 3) pb pk sSup := by
  have inv : ∀ env M r env' M', sSup env M = some (r, env', M') → ∃ x : Nat, env[0]? = some (Value.ref x) ∧ r = .inl 0 ∧ env' = env ∧ M' = M := by
    intro env M r env' M' h
    unfold sSup at h
    split at h
    · rename_i x hx; cases h; exact ⟨x, hx, rfl, rfl, rfl⟩
    · cases h
  refine ⟨fun env M r env' M' h => ?_, ?_⟩
  · obtain ⟨x, -, -, -, rfl⟩ := inv env M r env' M' h
    exact ⟨Nat.le_refl _, Nat.le_refl _⟩
  · intro w mt b vF MF hm env M r env' M' hf hn hu hrt ls H locs cells slots hl ho kk
    obtain ⟨x, h1, rfl, rfl, rfl⟩ := inv env M r env' M' hf
    have hs := hl.2.2 0 (.ref x) h1 (by simp)
    have kk := kk _ rfl ls H locs cells slots hl ho
    obtain ⟨p, e, R, s, args, below, meth, c, Q, rfl, hx, hb, hml, hown, hK, hnm, hR1, hR2, hR3, hR4, hret⟩ := hm
    refine lv_aload_n hx hb hd0 rfl hs ?_
    exact W.objInit hx hb hown (hK.word hlk args) (hK.word hi args) (hK.word hcd args) rfl (hl.1.trans hml.symm) rfl hd1 (by omega) (by simp [JFrame.monitorRoom]; omega) kk
/-- entry -/
theorem argE_len (vs : List Value) : (argE vs).length = (lg_sl (vs.map (cv G))).length := by
  unfold argE lg_sl
  induction vs with
  | nil => rfl
  | cons v l ih =>
    simp only [List.flatMap_cons, List.map_cons, List.length_append, ih, cv_cat]
    split <;> rfl
theorem argE_at (vs : List Value) : ∀ (i : Nat) (v : Value), (argE vs)[i]? = some v → v ≠ .null → (lg_sl (vs.map (cv G)))[i]? = some (.val (cv G v)) := by
  unfold argE lg_sl
  induction vs with
  | nil => intro i v h; simp at h
  | cons a l ih =>
    intro i v h hne
    simp only [List.flatMap_cons, List.map_cons, cv_cat] at h ⊢
    by_cases hc : a.category = 2
    · rw [if_pos hc] at h ⊢
      match i, h with
      | 0, h => simp at h; subst h; rfl
      | 1, h => simp at h; exact absurd h.symm hne
      | i + 2, h => exact ih i v (by simpa using h) hne
    · rw [if_neg hc] at h ⊢
      match i, h with
      | 0, h => simp at h; subst h; rfl
      | i + 1, h => exact ih i v (by simpa using h) hne
theorem ck_of {n : Nat} {f : Sv} (hy : plainName (kY K).cls = true) (hn : n ≤ kL K) (h : XS G K 0 0 0 0 f) : CK G K (fnOf n f) := by
  intro vs M v M' hF
  unfold fnOf at hF
  split at hF
  · rename_i hlen
    have hfe : ∃ env', f (argE vs) M = some (.inr v, env', M') := by
      split at hF
      · rename_i v' env' m' hh; cases hF; exact ⟨env', hh⟩
      · cases hF
    obtain ⟨env', hfe⟩ := hfe
    have hmono := h.1 _ _ _ _ _ hfe
    refine ⟨hmono.1, hmono.2, ?_⟩
    refine Met.ofW (cc := kC K) (maxL := kL K) (ret := kT K) hy rfl ?_
    intro p e s m args below meth c s₁ B hml hv
    obtain ⟨rfl, hK, hr⟩ := hv
    have hown : s.vm.findClass (kY K).cls = some m.cls := findClass_of_methodNamed B.named
    have hle : (lg_sl (vs.map (cv G))).length ≤ kL K := by rw [← argE_len (G := G), hlen]; exact hn
    have hen := lv_entry (vs.map (cv G)) hle
    rw [lg_entry_eq]
    generalize hls : ((lg_sl (vs.map (cv G)) ++ List.replicate (kL K - (lg_sl (vs.map (cv G))).length) Slot.unset).toArray) = ls at hen ⊢
    have hLk : Lk G K (argE vs) ls := ⟨hen.1, hen.2.1, fun i w hw hne => by
      have h1 := argE_at (G := G) vs i w hw hne
      rw [← hls]
      simp only [List.getElem?_toArray]
      rw [List.getElem?_append_left (List.getElem?_eq_some_iff.mp h1).1]
      exact h1⟩
    refine h.2 (fun H locs cells slots g => W p (gl G) e (rmK K M M') s m (vs.map (cv G)).toArray below meth c H locs cells slots (MQ below (QC G v M') (vs.map (cv G)).toArray s (mN M' - mN M) (mU M' - mU M) (fun q => gB G ≤ q)) g) m (mN M, mU M) v M' ?_ (argE vs) M (.inr v) env' M' hfe (Nat.le_refl _) (Nat.le_refl _) (fun v' hv' => by cases hv'; exact ⟨rfl, rfl⟩) ls s.heap [] 0 0 hLk ⟨hr, (fun q hq => by cases hq), (Nat.zero_add _), (Nat.zero_add _)⟩ (fun t hex => by cases hex)
    refine ⟨p, e, rmK K M M', s, (vs.map (cv G)).toArray, below, meth, c, _, rfl, B.exec, B.bytes, hml, hown, hK, (name_of_methodNamed B.named B.method).1, rfl, rfl, Nat.le_of_eq (Nat.sub_add_cancel hmono.1).symm, Nat.le_of_eq (Nat.sub_add_cancel hmono.2).symm, ?_⟩
    intro pc ls' H locs cells slots hrt o
    have ec : cells = mN M' - mN M := by have := o.2.2.1; omega
    have es : slots = mU M' - mU M := by have := o.2.2.2; omega
    subst ec; subst es
    have hq : ∀ t : State, t.heap = H → s.WarmedH t.vm → QC G v M' (vs.map (cv G)).toArray s (.returned v) t := fun t ht _ => ⟨rfl, by rw [ht]; exact o.1⟩
    match v, hrt, hq with
    | none, hrt, hq => exact W.vret B.exec B.bytes (B.returns.trans hrt.2) hq o.2.1 hrt.1 B.notSynchronized
    | some (.int x), hrt, hq =>
      rcases hrt.2 with hT | ⟨ty, hT, hz⟩
      · exact W.iret B.exec B.bytes (B.returns.trans hT) hq o.2.1 hrt.1 B.notSynchronized
      · exact W.zret B.exec B.bytes (B.returns.trans hT) hz hq o.2.1 hrt.1 B.notSynchronized
    | some (.long x), hrt, hq => exact W.lret B.exec B.bytes (B.returns.trans hrt.2) hq o.2.1 hrt.1 B.notSynchronized
    | some (.float _), hrt, hq => exact hrt.elim
    | some (.double _), hrt, hq => exact hrt.elim
    | some .null, hrt, hq => exact hrt.elim
    | some (.ref _), hrt, hq => exact hrt.elim
    | some (.retAddr _), hrt, hq => exact hrt.elim
  · cases hF
end RT
