/-! BOTH SIDES, STEP BY STEP -/
def Bd (M m : qM) : Prop := mN M ≤ mN m ∧ mN m ≤ mN M + 22 ∧ mU M ≤ mU m ∧ mU m ≤ mU M + 204
def WI (M : qM) (B : Nat) (A : Ab) : Prop := (∃ P P2 L L2 ac, Cls M B P P2 L L2 ac A) ∧ BK1 M B (aPn A) (aLm A) ∧ (∃ C, Mdl M (B + 140) C A ∧ (aTd A = true → C + 21 < mN M)) ∧ (∀ i, i < aTl A → isBy (aTp A i)) ∧ B + 154 ≤ mN M ∧ tg M (B + 153) = (21, 1)
def StI (F G : Fn) (as : List Value) (A A' : Ab) (v : Value) : Prop := ∀ M B, WI M B A → tg M B = (9, 15) ∧ ∃ M1 M2, F (.ref B :: as) M = some (some v, M1) ∧ tg M1 (B + 140) = (11, 33) ∧ G (.ref (B + 140) :: as) M1 = some (some v, M2) ∧ WI M2 B A' ∧ Bd M M2
theorem sti {F G : Fn} {as : List Value} {A A' : Ab} {v : Value} (c : ∀ M B P P2 L L2 ac, Cls M B P P2 L L2 ac A → BK1 M B (aPn A) (aLm A) → ∃ M1 Q Q2 J J2, F (.ref B :: as) M = some (some v, M1) ∧ CRB M B Q Q2 J J2 A' M1) (r : ∀ M X C, Mdl M X C A → aTl A ≤ 900 → ∃ M2, G (.ref X :: as) M = some (some v, M2) ∧ MR M X C A' M2) (td : aTd A' = true → aTd A = true) (hy : (∀ i, i < aTl A → isBy (aTp A i)) → aTl A ≤ 900 → ∀ i, i < aTl A' → isBy (aTp A' i)) : StI F G as A A' v := by
  rintro M B ⟨⟨P, P2, L, L2, ac, hc⟩, hb, ⟨C, hm, hC⟩, hby, hn, ht⟩
  obtain ⟨M1, Q, Q2, J, J2, e1, ⟨ac1, c1⟩, o1, b1⟩ := c M B P P2 L L2 ac hc hb
  have m1 := hm.out o1
  obtain ⟨M2, e2, m2, f2⟩ := r M1 (B + 140) C m1 hc.V.tl9
  have n1 : mN M1 = mN M := by show M1.1.1 = M.1.1; rw [o1.1]
  have n2 : mN M2 = mN M1 := by show M2.1.1 = M1.1.1; rw [f2.1]
  have u1 : mU M1 = mU M := by show M1.1.2 = M.1.2; rw [o1.1]
  have u2 : mU M2 = mU M1 := by show M2.1.2 = M1.1.2; rw [f2.1]
  refine ⟨hc.T.t, M1, M2, e1, m1.T.t, e2, ⟨⟨Q, Q2, J, J2, ac1, c1.mr f2⟩, b1.bk (f2.bk (fun a h z => by omega)), ⟨C, m2, fun z => ?_⟩, hy hby hc.V.tl9, ?_, ?_⟩, ?_⟩
  · have := hC (td z); omega
  · omega
  · rw [f2.tg, (o1.2 (B + 153) (by omega)).1]; exact ht
  · exact ⟨by omega, by omega, by omega, by omega⟩
/-- calls that only read -/
theorem sti_ro {F G : Fn} {as : List Value} {A : Ab} {x : Int32} {t : Nat} (c : ∀ M B P P2 L L2 ac, Cls M B P P2 L L2 ac A → F (.ref B :: as) M = some (some (.int x), pI M B 6 (n32 t))) (r : ∀ M X C, Mdl M X C A → G (.ref X :: as) M = some (some (.int x), mdR M X t)) (h4 : t ≠ 4) (h6 : t ≤ 6) : StI F G as A (setTr A t) (.int x) :=
  sti (fun M B P P2 L L2 ac h b => ⟨_, P, P2, L, L2, c M B P P2 L L2 ac h, (CR.ro h h6 h4).crb b⟩) (fun M X C h _ => ⟨_, r M X C h, MR.ro h h4⟩) (fun z => z) (fun h _ => h)
/-- calls that change nothing at all -/
theorem sti_no {F G : Fn} {as : List Value} {A : Ab} {x : Int32} (c : ∀ M B P P2 L L2 ac, Cls M B P P2 L L2 ac A → F (.ref B :: as) M = some (some (.int x), M)) (r : ∀ M X C, Mdl M X C A → G (.ref X :: as) M = some (some (.int x), pI M X 0 (n32 0))) : StI F G as A A (.int x) :=
  sti (fun M B P P2 L L2 ac h b => ⟨_, P, P2, L, L2, c M B P P2 L L2 ac h, ⟨ac, h⟩, Out.refl _ _ _, b⟩) (fun M X C h _ => ⟨_, r M X C h, h.th (n32 0), frX (Fr.refl _ M)⟩) (fun z => z) (fun h _ => h)
theorem sti_cr {F G : Fn} {as : List Value} {A A' : Ab} {v : Value} (c : ∀ M B P P2 L L2 ac, Cls M B P P2 L L2 ac A → ∃ M1, F (.ref B :: as) M = some (some v, M1) ∧ CR M B P P2 L L2 A A' M1) (r : ∀ M X C, Mdl M X C A → ∃ M2, G (.ref X :: as) M = some (some v, M2) ∧ MR M X C A' M2) (k : aTd A' = aTd A ∧ aTl A' = aTl A ∧ aTp A' = aTp A) : StI F G as A A' v :=
  sti (fun M B P P2 L L2 ac h b => by obtain ⟨M1, e, g⟩ := c M B P P2 L L2 ac h; exact ⟨M1, P, P2, L, L2, e, g.crb b⟩) (fun M X C h _ => r M X C h) (fun z => by rw [← k.1]; exact z) (fun h _ => by rw [k.2.1, k.2.2]; exact h)
theorem sti_cb {F G : Fn} {as : List Value} {A A' : Ab} {v : Value} (c : ∀ M B P P2 L L2 ac, Cls M B P P2 L L2 ac A → BK1 M B (aPn A) (aLm A) → ∃ M1, F (.ref B :: as) M = some (some v, M1) ∧ CRB M B P P2 L L2 A' M1) (r : ∀ M X C, Mdl M X C A → ∃ M2, G (.ref X :: as) M = some (some v, M2) ∧ MR M X C A' M2) (k : aTd A' = aTd A ∧ aTl A' = aTl A ∧ aTp A' = aTp A) : StI F G as A A' v :=
  sti (fun M B P P2 L L2 ac h b => by obtain ⟨M1, e, g⟩ := c M B P P2 L L2 ac h b; exact ⟨M1, P, P2, L, L2, e, g⟩) (fun M X C h _ => r M X C h) (fun z => by rw [← k.1]; exact z) (fun h _ => by rw [k.2.1, k.2.2]; exact h)
