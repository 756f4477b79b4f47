/-! THE LAW'S OWN METHOD. X: the script (address, length, values) -/
def eXn (X : Nat × Nat × (Nat → Int32)) : Ev Int32 := fun (env : qE) M => match (env[0]? : Option Value) with | some (Value.ref a) => if a = X.1 then some (Int32.ofNat X.2.1, M) else none | _ => none
def eX (X : Nat × Nat × (Nat → Int32)) (i : Ev Int32) : Ev Int32 := fun (env : qE) M => match (env[0]? : Option Value) with | some (Value.ref a) => if a = X.1 then (i env M).bind (fun q => if inb q.1 X.2.1 = true then some (X.2.2 q.1.toNatClampNeg, q.2) else none) else none | _ => none
/-- a contract of a method with an exception table -/
def CKW (G : qG) (K : qK) (hh : List (Nat × Nat × Nat × Nat)) (F : Fn) : Prop := ∀ args M v M', F args M = some (v, M') → mN M ≤ mN M' ∧ mU M ≤ mU M' ∧ Met (gl G) (kY K) (Cond.codeWith (kY K) (kC K) (kL K) (kT K) hh :: TBL) (rmK K M M') (PC G args M) (QC G v M') (mN M' - mN M) (mU M' - mU M) (fun q => gB G ≤ q)
section RL
variable {G : qG} {K : qK}
theorem x_eXn {pc : Nat} (hd0 : decode (kC K) pc = .ok (.aload_n 0, 1)) (hd1 : decode (kC K) (pc + 1) = .ok (.arraylength, 1)) : XP G K 0 pc (pc + 1 + 1) piI (eXn (gX G)) := by
  have inv : ∀ (env : qE) M x M', eXn (gX G) env M = some (x, M') → env[0]? = some (Value.ref (gX G).1) ∧ x = Int32.ofNat (gX G).2.1 ∧ M' = M := by
    intro env M x M' h
    unfold eXn at h
    split at h
    · rename_i a ha
      split at h
      · rename_i e; cases h; rw [← e]; exact ⟨ha, rfl, rfl⟩
      · cases h
    · cases h
  refine ⟨fun env M x M' h => ?_, ?_⟩
  · obtain ⟨-, -, rfl⟩ := inv env M x M' h; exact ⟨Nat.le_refl _, Nat.le_refl _⟩
  · intro w mt b vF MF hm env M x M' hf hn hu st ls H locs cells slots hst hl ho kk
    obtain ⟨h1, rfl, rfl⟩ := inv env M x M' hf
    have hs := hl.2.2 0 _ h1 (by simp)
    have kk := kk H locs cells slots ho
    obtain ⟨p, e, R, s, args, below, meth, c, Q, rfl, hx, hb, hml, hown, hK, hnm, hR1, hR2, hR3, hR4, hret⟩ := hm
    refine lv_aload_n hx hb hd0 rfl hs ?_
    obtain ⟨⟨scr, g1, g2, g3, g4, g5⟩, hlt⟩ := hK.2.2.2.2.2.2.2.2.1
    exact W.alen hx hb (by rw [ho.1.2.2.1 _ hlt]; exact g1) g2 (by rw [g4]) rfl rfl hd1 kk
theorem x_eX {d pc p1 : Nat} {i : Ev Int32} (hd0 : decode (kC K) pc = .ok (.aload_n 0, 1)) (hi : XP G K d (pc + 1) p1 piI i) (hd1 : decode (kC K) p1 = .ok (.iaload, 1)) : XP G K (d + 1) pc (p1 + 1) piI (eX (gX G) i) := by
  have inv : ∀ (env : qE) M x M', eX (gX G) i env M = some (x, M') → env[0]? = some (Value.ref (gX G).1) ∧ ∃ q, i env M = some q ∧ inb q.1 (gX G).2.1 = true ∧ x = (gX G).2.2 q.1.toNatClampNeg ∧ M' = q.2 := by
    intro env M x M' h
    unfold eX at h
    split at h
    · rename_i a ha
      split at h
      · rename_i e
        obtain ⟨q, h1, h2⟩ := bnd h
        split at h2
        · rename_i hin; cases h2; rw [← e]; exact ⟨ha, q, h1, hin, rfl, rfl⟩
        · cases h2
      · cases h
    · cases h
  refine ⟨fun env M x M' h => ?_, ?_⟩
  · obtain ⟨-, q, h1, -, -, rfl⟩ := inv env M x M' h; exact hi.1 env M q.1 q.2 h1
  · intro w mt b vF MF hm env M x M' hf hn hu st ls H locs cells slots hst hl ho kk
    obtain ⟨h1, q, h2, h3, rfl, rfl⟩ := inv env M x M' hf
    have hs := hl.2.2 0 _ h1 (by simp)
    have hgo : w H locs cells slots (F0 mt (pc + 1) ls (.ref (gX G).1 :: st)) → w H locs cells slots (F0 mt pc ls st) := by
      intro kk'
      obtain ⟨p, e, R, s, args, below, meth, c, Q, rfl, hx, hb, hml, hown, hK, hnm, hR1, hR2, hR3, hR4, hret⟩ := hm
      exact lv_aload_n hx hb hd0 rfl hs kk'
    refine hgo (hi.2 w mt b vF MF hm env M q.1 q.2 h2 hn hu (.ref (gX G).1 :: st) ls H locs cells slots (by simp [wt, Value.category] at hst ⊢; omega) hl ho (fun H' l' c' s' o' => ?_))
    have kk := kk H' l' c' s' o'
    have hin : ¬ (q.1 < 0 ∨ (gX G).2.1 ≤ q.1.toNatClampNeg) := of_decide_eq_true h3
    have hlt2 : q.1.toNatClampNeg < (gX G).2.1 := Nat.not_le.mp fun z => hin (Or.inr z)
    obtain ⟨p, e, R, s, args, below, meth, c, Q, rfl, hx, hb, hml, hown, hK, hnm, hR1, hR2, hR3, hR4, hret⟩ := hm
    obtain ⟨⟨scr, g1, g2, g3, g4, g5⟩, hlt⟩ := hK.2.2.2.2.2.2.2.2.1
    exact W.iald hx hb (by rw [o'.1.2.2.1 _ hlt]; exact g1) g2 g3 (by rw [g4]; exact hin) (g5 _ hlt2) rfl rfl hd1 kk
theorem x_callSW {d k n pc p1 idx : Nat} {hh : List (Nat × Nat × Nat × Nat)} {a : Ev (List Value)} {F : Fn} {K' : qK} (hK' : CKW G K' hh F) (ha : XA G K d k n pc p1 a) (hd : decode (kC K) p1 = .ok (.invokestatic idx, 3)) (hl1 : lkM (kY K).cls idx (kY K')) (hc : Cond.methodLink (kY K).cls idx (kY K') ∈ TBL ∧ Cond.initialized (kY K').cls ∈ TBL ∧ Cond.codeWith (kY K') (kC K') (kL K') (kT K') hh ∈ TBL ∧ (kY K').cls ≠ "java/lang/invoke/MethodHandle" ∧ (kY K').cls ≠ "java/lang/invoke/VarHandle" ∧ (parseMethodDescriptor (kY K').desc).map (fun d => d.parameters.length) = some n) (hs : Cond.static (kY K') ∈ TBL) (hfr : kF K' + 1 ≤ kF K) (hlo : 8 + (kL K' + 11) + kO K' ≤ kO K) : XP G K d pc (p1 + 3) (piO G) (cFs F a) := by
  refine ⟨fun env M x M' h => ?_, ?_⟩
  · obtain ⟨r, h1, h2⟩ := bnd h
    have a1 := ha.1.1 env M r.1 r.2 h1
    have a2 := hK' _ _ _ _ h2
    exact ⟨by omega, by omega⟩
  · intro w mt b vF MF hm env M x M' hf hn hu st ls H locs cells slots hst hl ho kk
    obtain ⟨r, h1, h2⟩ := bnd hf
    have a2 := hK' _ _ _ _ h2
    refine ha.1.2 w mt b vF MF hm env M r.1 r.2 h1 (by omega) (by omega) st ls H locs cells slots hst hl ho (fun H' l' c' s' o' => ?_)
    have hlen := (ha.2 env M r.1 r.2 h1).2
    obtain ⟨p, e, R, s, args, below, meth, c, Q, rfl, hx, hb, hml, hown, hK, hnm, hR1, hR2, hR3, hR4, hret⟩ := hm
    obtain ⟨c0, c1, c2, c3, c4, c5⟩ := hc
    have hts : ∀ w ∈ TBL, w.before args s = true := fun w h => hK.word h args
    have hst8 : wt st ≤ 8 := by omega
    have hpv : PreS s H' (PC G r.1 r.2) (r.1.map (cv G)) := ⟨FB, fun U hU hW => ⟨rfl, hK.moved hW, by rw [hU]; exact o'.1⟩⟩
    have hrm : c' + (mN M' - mN r.2) ≤ R.cells ∧ s' + (mU M' - mU r.2) ≤ R.slots := by
      have := o'.2.2.1; have := o'.2.2.2
      exact ⟨by omega, by omega⟩
    have hend : ∀ H1 l1, rp G M' H1 → (∀ q ∈ l1, gB G ≤ q.base) → W p (gl G) e R s mt args below meth c H1 l1 (c' + (mN M' - mN r.2)) (s' + (mU M' - mU r.2)) Q (F0 mt (p1 + 3) ls (x.toList ++ st)) := by
      intro H1 l1 q1 q2
      refine kk H1 l1 _ _ ⟨q1, q2, ?_, ?_⟩
      · have := o'.2.2.1; omega
      · have := o'.2.2.2; omega
    have hn' : (r.1.map (cv G)).length = n := by rw [List.length_map]; exact hlen
    have hwd : ∀ w ∈ (Cond.codeWith (kY K') (kC K') (kL K') (kT K') hh :: TBL), ∀ (a' : Array Value) (U : State), s.WarmedH U.vm → w.before a' U = true := fun w hw a' U hW => (hK.moved hW).word (by
      rcases List.mem_cons.mp hw with h | h
      · rw [h]; exact c2
      · exact h) a'
    exact runW (vx_runSW (n := n) (hh := hh) ⟨hx, hb, hml, hown, hts⟩ a2.2.2 ⟨⟨rfl, rfl, by rw [hR1]; exact hfr, by rw [hR2]; exact hlo, hwd, List.mem_cons_self⟩, hts _ c2, hts _ c1, ⟨c3, c4⟩, (fun sig h => by rw [h] at c5; exact (Option.some.inj c5).symm), hts _ c0, hts _ hs⟩ hpv rfl hn' hl.1 rfl (lv_room hst8) hd hrm) o'.2.1 hend
end RL
