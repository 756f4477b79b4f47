/-! WHAT A PIECE ENDS IN: wE of expressions, wS of statements, wF of methods; each rule is an equation, so simp computes what is owed -/
def wE {α : Type} (f : Ev α) (env : qE) (M : qM) (Q : α → qM → Prop) : Prop := ∃ x m, f env M = some (x, m) ∧ Q x m
def wS (s : Sv) (env : qE) (M : qM) (Q : Re → qE → qM → Prop) : Prop := ∃ r e m, s env M = some (r, e, m) ∧ Q r e m
def wF (F : Fn) (vs : List Value) (M : qM) (Q : Option Value → qM → Prop) : Prop := ∃ v m, F vs M = some (v, m) ∧ Q v m
theorem wF_of {F : Fn} {vs : List Value} {M m : qM} {v : Option Value} (h : F vs M = some (v, m)) (Q : Option Value → qM → Prop) : wF F vs M Q = Q v m := by
  refine propext ⟨?_, fun q => ⟨v, m, h, q⟩⟩
  rintro ⟨v', m', h', q⟩
  rw [h] at h'; cases h'; exact q
theorem wF_eq {F : Fn} {vs : List Value} {M m : qM} {v : Option Value} (h : wF F vs M (fun v' m' => v' = v ∧ m' = m)) : F vs M = some (v, m) := by
  obtain ⟨v', m', h1, rfl, rfl⟩ := h; exact h1
theorem wF.mono {F : Fn} {vs : List Value} {M : qM} {Q Q' : Option Value → qM → Prop} (h : wF F vs M Q) (k : ∀ v m, Q v m → Q' v m) : wF F vs M Q' := by
  obtain ⟨v, m, h1, h2⟩ := h; exact ⟨v, m, h1, k v m h2⟩
theorem wS.mono {s : Sv} {env : qE} {M : qM} {Q Q' : Re → qE → qM → Prop} (h : wS s env M Q) (k : ∀ r e m, Q r e m → Q' r e m) : wS s env M Q' := by
  obtain ⟨r, e, m, h1, h2⟩ := h; exact ⟨r, e, m, h1, k r e m h2⟩
theorem wE.mono {α : Type} {f : Ev α} {env : qE} {M : qM} {Q Q' : α → qM → Prop} (h : wE f env M Q) (k : ∀ x m, Q x m → Q' x m) : wE f env M Q' := by
  obtain ⟨x, m, h1, h2⟩ := h; exact ⟨x, m, h1, k x m h2⟩
section WP
variable {α β γ : Type} {env : qE} {M : qM}
theorem wBind {a : Option (β × qM)} {k : β × qM → Option (α × qM)} {Q : α → qM → Prop} : (∃ x m, a.bind k = some (x, m) ∧ Q x m) ↔ ∃ y m, a = some (y, m) ∧ ∃ x m', k (y, m) = some (x, m') ∧ Q x m' := by
  constructor
  · rintro ⟨x, m, h, q⟩
    cases a with
    | none => cases h
    | some y => exact ⟨y.1, y.2, rfl, x, m, h, q⟩
  · rintro ⟨y, m, rfl, x, m', h, q⟩
    exact ⟨x, m', h, q⟩
theorem wBindS {a : Option (β × qM)} {k : β × qM → Option (Re × qE × qM)} {Q : Re → qE → qM → Prop} : (∃ r e m, a.bind k = some (r, e, m) ∧ Q r e m) ↔ ∃ y m, a = some (y, m) ∧ ∃ r e m', k (y, m) = some (r, e, m') ∧ Q r e m' := by
  constructor
  · rintro ⟨r, e, m, h, q⟩
    cases a with
    | none => cases h
    | some y => exact ⟨y.1, y.2, rfl, r, e, m, h, q⟩
  · rintro ⟨y, m, rfl, r, e, m', h, q⟩
    exact ⟨r, e, m', h, q⟩
theorem some1 {x : α} {m : qM} {Q : α → qM → Prop} : (∃ x' m', some (x, m) = some (x', m') ∧ Q x' m') ↔ Q x m := by
  constructor
  · rintro ⟨x', m', h, q⟩; cases h; exact q
  · intro q; exact ⟨x, m, rfl, q⟩
theorem some2 {r : Re} {e : qE} {m : qM} {Q : Re → qE → qM → Prop} : (∃ r' e' m', some (r, e, m) = some (r', e', m') ∧ Q r' e' m') ↔ Q r e m := by
  constructor
  · rintro ⟨r', e', m', h, q⟩; cases h; exact q
  · intro q; exact ⟨r, e, m, rfl, q⟩
theorem ifN {c : Prop} [Decidable c] {a : Option (α × qM)} {Q : α → qM → Prop} : (∃ x m, (if c then a else none) = some (x, m) ∧ Q x m) ↔ c ∧ ∃ x m, a = some (x, m) ∧ Q x m := by
  by_cases h : c <;> simp [h]
theorem ifNS {c : Prop} [Decidable c] {a : Option (Re × qE × qM)} {Q : Re → qE → qM → Prop} : (∃ r e m, (if c then a else none) = some (r, e, m) ∧ Q r e m) ↔ c ∧ ∃ r e m, a = some (r, e, m) ∧ Q r e m := by
  by_cases h : c <;> simp [h]
theorem ifM {c : Prop} [Decidable c] {x : α} {m : qM} {Q : α → qM → Prop} : (∃ x' m', (if c then none else some (x, m)) = some (x', m') ∧ Q x' m') ↔ ¬ c ∧ Q x m := by
  by_cases h : c
  · rw [if_pos h]
    exact ⟨fun ⟨_, _, h, _⟩ => (by cases h), fun z => absurd h z.1⟩
  · rw [if_neg h]
    exact some1.trans ⟨fun q => ⟨h, q⟩, fun z => z.2⟩
theorem ifMS {c : Prop} [Decidable c] {r : Re} {e : qE} {m : qM} {Q : Re → qE → qM → Prop} : (∃ r' e' m', (if c then none else some (r, e, m)) = some (r', e', m') ∧ Q r' e' m') ↔ ¬ c ∧ Q r e m := by
  by_cases h : c
  · rw [if_pos h]
    exact ⟨fun ⟨_, _, _, h, _⟩ => (by cases h), fun z => absurd h z.1⟩
  · rw [if_neg h]
    exact some2.trans ⟨fun q => ⟨h, q⟩, fun z => z.2⟩
theorem w_eK {x : α} {Q : α → qM → Prop} : wE (eK x) env M Q = Q x M := propext some1
theorem w_eI {i : Nat} {Q : Int32 → qM → Prop} : wE (eI i) env M Q = (match env[i]? with | some (.int x) => Q x M | _ => False) := by
  unfold wE eI
  apply propext
  cases h : env[i]? with
  | none => exact ⟨fun ⟨_, _, h, _⟩ => (by cases h), fun h => h.elim⟩
  | some v => cases v <;> first | exact some1 | exact ⟨fun ⟨_, _, h, _⟩ => (by cases h), fun h => h.elim⟩
theorem w_eL {i : Nat} {Q : Int64 → qM → Prop} : wE (eL i) env M Q = (match env[i]? with | some (.long x) => Q x M | _ => False) := by
  unfold wE eL
  apply propext
  cases h : env[i]? with
  | none => exact ⟨fun ⟨_, _, h, _⟩ => (by cases h), fun h => h.elim⟩
  | some v => cases v <;> first | exact some1 | exact ⟨fun ⟨_, _, h, _⟩ => (by cases h), fun h => h.elim⟩
theorem w_eR {i : Nat} {Q : Nat → qM → Prop} : wE (eR i) env M Q = (match env[i]? with | some (.ref x) => Q x M | _ => False) := by
  unfold wE eR
  apply propext
  cases h : env[i]? with
  | none => exact ⟨fun ⟨_, _, h, _⟩ => (by cases h), fun h => h.elim⟩
  | some v => cases v <;> first | exact some1 | exact ⟨fun ⟨_, _, h, _⟩ => (by cases h), fun h => h.elim⟩
theorem w_b1 {f : α → β} {a : Ev α} {Q : β → qM → Prop} : wE (b1 f a) env M Q = wE a env M (fun x m => Q (f x) m) := by
  unfold wE b1
  apply propext
  rw [wBind]
  simp only [some1]
theorem w_b2 {f : α → β → γ} {a : Ev α} {b : Ev β} {Q : γ → qM → Prop} : wE (b2 f a b) env M Q = wE a env M (fun x m => wE b env m (fun y m' => Q (f x y) m')) := by
  unfold wE b2
  apply propext
  rw [wBind]
  simp only [wBind, some1]
theorem w_b0 {f : Int32 → Int32 → γ} {a b : Ev Int32} {Q : γ → qM → Prop} : wE (b0 f a b) env M Q = wE a env M (fun x m => wE b env m (fun y m' => y ≠ 0 ∧ Q (f x y) m')) := by
  unfold wE b0
  apply propext
  rw [wBind]
  simp only [wBind]
  constructor
  · rintro ⟨x, m, h1, y, m', h2, z, m2, h3, q⟩
    refine ⟨x, m, h1, y, m', h2, ?_⟩
    by_cases hy : y = 0
    · simp [hy] at h3
    · simp only [hy, if_false] at h3; cases h3; exact ⟨hy, q⟩
  · rintro ⟨x, m, h1, y, m', h2, hy, q⟩
    exact ⟨x, m, h1, y, m', h2, f x y, m', by simp [hy], q⟩
theorem w_b0L {f : Int64 → Int64 → Int64} {a b : Ev Int64} {Q : Int64 → qM → Prop} : wE (b0L f a b) env M Q = wE a env M (fun x m => wE b env m (fun y m' => y ≠ 0 ∧ Q (f x y) m')) := by
  unfold wE b0L
  apply propext
  rw [wBind]
  simp only [wBind]
  constructor
  · rintro ⟨x, m, h1, y, m', h2, z, m2, h3, q⟩
    refine ⟨x, m, h1, y, m', h2, ?_⟩
    by_cases hy : y = 0
    · simp [hy] at h3
    · simp only [hy, if_false] at h3; cases h3; exact ⟨hy, q⟩
  · rintro ⟨x, m, h1, y, m', h2, hy, q⟩
    exact ⟨x, m, h1, y, m', h2, f x y, m', by simp [hy], q⟩
theorem w_gI {t k : Nat} {a : Ev Nat} {Q : Int32 → qM → Prop} : wE (gI t k a) env M Q = wE a env M (fun o m => (tg m o).1 = t ∧ Q (vi m o k) m) := by
  unfold wE gI
  apply propext
  rw [wBind]
  simp only [ifN, some1]
theorem w_gL {t k : Nat} {a : Ev Nat} {Q : Int64 → qM → Prop} : wE (gL t k a) env M Q = wE a env M (fun o m => (tg m o).1 = t ∧ Q (vl m o k) m) := by
  unfold wE gL
  apply propext
  rw [wBind]
  simp only [ifN, some1]
theorem w_gN {t k : Nat} {a : Ev Nat} {Q : Option Nat → qM → Prop} : wE (gN t k a) env M Q = wE a env M (fun o m => (tg m o).1 = t ∧ Q (vr m o k) m) := by
  unfold wE gN
  apply propext
  rw [wBind]
  simp only [ifN, some1]
theorem w_gR {t k : Nat} {a : Ev Nat} {Q : Nat → qM → Prop} : wE (gR t k a) env M Q = wE a env M (fun o m => (tg m o).1 = t ∧ (match vr m o k with | some x => Q x m | none => False)) := by
  unfold wE gR
  apply propext
  rw [wBind]
  simp only [ifN]
  refine exists_congr fun o => exists_congr fun m => and_congr Iff.rfl (and_congr Iff.rfl ?_)
  cases vr m o k
  · exact ⟨fun ⟨_, _, h, _⟩ => (by cases h), fun h => h.elim⟩
  · exact some1
theorem w_aI {t : Nat} {a : Ev Nat} {i : Ev Int32} {Q : Int32 → qM → Prop} : wE (aI t a i) env M Q = wE a env M (fun o m => wE i env m (fun q m' => ((tg m' o).1 = t ∧ inb q (tg m' o).2 = true) ∧ Q (vi m' o q.toNatClampNeg) m')) := by
  unfold wE aI
  apply propext
  rw [wBind]
  simp only [wBind, ifN, some1]
theorem w_aL {a : Ev Nat} {i : Ev Int32} {Q : Int64 → qM → Prop} : wE (aL a i) env M Q = wE a env M (fun o m => wE i env m (fun q m' => ((tg m' o).1 = 21 ∧ inb q (tg m' o).2 = true) ∧ Q (vl m' o q.toNatClampNeg) m')) := by
  unfold wE aL
  apply propext
  rw [wBind]
  simp only [wBind, ifN, some1]
theorem w_aR {a : Ev Nat} {i : Ev Int32} {Q : Nat → qM → Prop} : wE (aR a i) env M Q = wE a env M (fun o m => wE i env m (fun q m' => ((tg m' o).1 = 24 ∧ inb q (tg m' o).2 = true) ∧ (match vr m' o q.toNatClampNeg with | some x => Q x m' | none => False))) := by
  unfold wE aR
  apply propext
  rw [wBind]
  simp only [wBind, ifN]
  refine exists_congr fun o => exists_congr fun m => and_congr Iff.rfl (exists_congr fun q => exists_congr fun m' => and_congr Iff.rfl (and_congr Iff.rfl ?_))
  cases vr m' o q.toNatClampNeg
  · exact ⟨fun ⟨_, _, h, _⟩ => (by cases h), fun h => h.elim⟩
  · exact some1
theorem w_aLen {a : Ev Nat} {Q : Int32 → qM → Prop} : wE (aLen a) env M Q = wE a env M (fun o m => 20 ≤ (tg m o).1 ∧ Q (Int32.ofNat (tg m o).2) m) := by
  unfold wE aLen
  apply propext
  rw [wBind]
  simp only [ifN, some1]
theorem w_tern {c : Ev Bool} {a b : Ev α} {Q : α → qM → Prop} : wE (tern c a b) env M Q = wE c env M (fun x m => if x = true then wE a env m Q else wE b env m Q) := by
  unfold wE tern
  apply propext
  rw [wBind]
  refine exists_congr fun o => exists_congr fun m => and_congr Iff.rfl ?_
  cases o <;> exact Iff.rfl
theorem w_and {a b : Ev Bool} {Q : Bool → qM → Prop} : wE (cAnd a b) env M Q = wE a env M (fun x m => if x = true then wE b env m Q else Q false m) := by
  unfold wE cAnd
  apply propext
  rw [wBind]
  refine exists_congr fun o => exists_congr fun m => and_congr Iff.rfl ?_
  cases o
  · exact some1
  · exact Iff.rfl
theorem w_or {a b : Ev Bool} {Q : Bool → qM → Prop} : wE (cOr a b) env M Q = wE a env M (fun x m => if x = true then Q true m else wE b env m Q) := by
  unfold wE cOr
  apply propext
  rw [wBind]
  refine exists_congr fun o => exists_congr fun m => and_congr Iff.rfl ?_
  cases o
  · exact Iff.rfl
  · exact some1
theorem w_vN {Q : List Value → qM → Prop} : wE vN env M Q = Q [] M := propext some1
theorem w_cFv {t : Nat} {F : Fn} {a : Ev (List Value)} {Q : Option Value → qM → Prop} : wE (cFv t F a) env M Q = wE a env M (fun vs m => rcv t vs m = true ∧ wF F vs m Q) := by
  unfold wE cFv wF
  apply propext
  rw [wBind]
  simp only [ifN]
theorem w_cFs {F : Fn} {a : Ev (List Value)} {Q : Option Value → qM → Prop} : wE (cFs F a) env M Q = wE a env M (fun vs m => wF F vs m Q) := by
  unfold wE cFs wF
  apply propext
  rw [wBind]
theorem w_toI {f : Ev (Option Value)} {Q : Int32 → qM → Prop} : wE (toI f) env M Q = wE f env M (fun v m => match v with | some (.int x) => Q x m | _ => False) := by
  unfold wE toI
  apply propext
  constructor
  · rintro ⟨x, m, h, q⟩
    split at h
    · rename_i x' m' h'; cases h; exact ⟨_, _, h', q⟩
    · cases h
  · rintro ⟨v, m, h, q⟩
    rw [h]
    split at q
    · exact ⟨_, _, rfl, q⟩
    · exact q.elim
theorem w_toL {f : Ev (Option Value)} {Q : Int64 → qM → Prop} : wE (toL f) env M Q = wE f env M (fun v m => match v with | some (.long x) => Q x m | _ => False) := by
  unfold wE toL
  apply propext
  constructor
  · rintro ⟨x, m, h, q⟩
    split at h
    · rename_i x' m' h'; cases h; exact ⟨_, _, h', q⟩
    · cases h
  · rintro ⟨v, m, h, q⟩
    rw [h]
    split at q
    · exact ⟨_, _, rfl, q⟩
    · exact q.elim
theorem w_toV {f : Ev (Option Value)} {Q : Unit → qM → Prop} : wE (toV f) env M Q = wE f env M (fun v m => match v with | none => Q () m | _ => False) := by
  unfold wE toV
  apply propext
  constructor
  · rintro ⟨x, m, h, q⟩
    split at h
    · rename_i m' h'; cases h; exact ⟨_, _, h', q⟩
    · cases h
  · rintro ⟨v, m, h, q⟩
    rw [h]
    split at q
    · exact ⟨_, _, rfl, q⟩
    · exact q.elim
theorem w_nO {t n : Nat} {F : Fn} {Q : Nat → qM → Prop} : wE (nO t n F) env M Q = wF F [.ref (mN M)] (mk1 M t n) (fun v m => v = none ∧ Q (mN M) m) := by
  unfold wE nO wF
  apply propext
  constructor
  · rintro ⟨x, m, h, q⟩
    split at h
    · rename_i m' h'; cases h; exact ⟨_, _, h', rfl, q⟩
    · cases h
  · rintro ⟨v, m, h, rfl, q⟩
    rw [h]
    exact ⟨_, _, rfl, q⟩
theorem w_nA {t : Nat} {e : Ev Int32} {Q : Nat → qM → Prop} : wE (nA t e) env M Q = wE e env M (fun x m => ¬ (x < 0 ∨ 65536 < x.toNatClampNeg) ∧ Q (mN m) (mk1 m t x.toNatClampNeg)) := by
  unfold wE nA
  apply propext
  rw [wBind]
  refine exists_congr fun o => exists_congr fun m => and_congr Iff.rfl ?_
  exact ifM
theorem s_skip {Q : Re → qE → qM → Prop} : wS sSkip env M Q = Q (.inl 0) env M := propext some2
theorem s_brk {Q : Re → qE → qM → Prop} : wS sBrk env M Q = Q (.inl 1) env M := propext some2
theorem s_cnt {Q : Re → qE → qM → Prop} : wS sCnt env M Q = Q (.inl 2) env M := propext some2
theorem s_retV {Q : Re → qE → qM → Prop} : wS sRetV env M Q = Q (.inr none) env M := propext some2
theorem s_seq {a b : Sv} {Q : Re → qE → qM → Prop} : wS (sSeq a b) env M Q = wS a env M (fun r e m => match r with | .inl 0 => wS b e m Q | _ => Q r e m) := by
  unfold wS sSeq
  apply propext
  constructor
  · rintro ⟨r, e, m, h, q⟩
    cases ha : a env M with
    | none => rw [ha] at h; cases h
    | some y =>
      obtain ⟨r1, e1, m1⟩ := y
      rw [ha] at h
      refine ⟨r1, e1, m1, rfl, ?_⟩
      cases r1 with
      | inl n => cases n with
        | zero => exact ⟨r, e, m, h, q⟩
        | succ n => cases h; exact q
      | inr v => cases h; exact q
  · rintro ⟨r1, e1, m1, h, q⟩
    rw [h]
    cases r1 with
    | inl n => cases n with
      | zero => obtain ⟨r, e, m, h2, q⟩ := q; exact ⟨r, e, m, h2, q⟩
      | succ n => exact ⟨_, _, _, rfl, q⟩
    | inr v => exact ⟨_, _, _, rfl, q⟩
theorem s_if {c : Ev Bool} {a b : Sv} {Q : Re → qE → qM → Prop} : wS (sIf c a b) env M Q = wE c env M (fun x m => if x = true then wS a env m Q else wS b env m Q) := by
  unfold wS wE sIf
  apply propext
  rw [wBindS]
  refine exists_congr fun o => exists_congr fun m => and_congr Iff.rfl ?_
  cases o <;> exact Iff.rfl
theorem s_set1 {mk : α → Value} {i : Nat} {e : Ev α} {Q : Re → qE → qM → Prop} : wS (sSet1 mk i e) env M Q = wE e env M (fun x m => ¬ (0 < i ∧ isL env[i - 1]? = true) ∧ Q (.inl 0) (sto env i (mk x)) m) := by
  unfold wS wE sSet1
  apply propext
  rw [wBindS]
  refine exists_congr fun o => exists_congr fun m => and_congr Iff.rfl ?_
  exact ifMS
theorem s_setL {i : Nat} {e : Ev Int64} {Q : Re → qE → qM → Prop} : wS (sSetL i e) env M Q = wE e env M (fun x m => ¬ (0 < i ∧ isL env[i - 1]? = true) ∧ Q (.inl 0) (sto (sto env i (.long x)) (i + 1) .null) m) := by
  unfold wS wE sSetL
  apply propext
  rw [wBindS]
  refine exists_congr fun o => exists_congr fun m => and_congr Iff.rfl ?_
  exact ifMS
theorem s_inc {i : Nat} {n : Int} {Q : Re → qE → qM → Prop} : wS (sInc i n) env M Q = (match env[i]? with | some (.int x) => Q (.inl 0) (env.set i (.int (x + Int32.ofInt n))) M | _ => False) := by
  unfold wS sInc
  apply propext
  cases h : env[i]? with
  | none => exact ⟨fun ⟨_, _, _, h, _⟩ => (by cases h), fun h => h.elim⟩
  | some v => cases v <;> first | exact some2 | exact ⟨fun ⟨_, _, _, h, _⟩ => (by cases h), fun h => h.elim⟩
theorem s_putI {t k : Nat} {o : Ev Nat} {e : Ev Int32} {Q : Re → qE → qM → Prop} : wS (sPutI t k o e) env M Q = wE o env M (fun a m => wE e env m (fun x m' => (tg m' a).1 = t ∧ Q (.inl 0) env (pI m' a k x))) := by
  unfold wS wE sPutI
  apply propext
  rw [wBindS]
  simp only [wBindS, ifNS, some2]
theorem s_putZ {t k : Nat} {o : Ev Nat} {e : Ev Int32} {Q : Re → qE → qM → Prop} : wS (sPutZ t k o e) env M Q = wE o env M (fun a m => wE e env m (fun x m' => ((tg m' a).1 = t ∧ okZ x = true) ∧ Q (.inl 0) env (pI m' a k x))) := by
  unfold wS wE sPutZ
  apply propext
  rw [wBindS]
  simp only [wBindS, ifNS, some2]
theorem s_putL {t k : Nat} {o : Ev Nat} {e : Ev Int64} {Q : Re → qE → qM → Prop} : wS (sPutL t k o e) env M Q = wE o env M (fun a m => wE e env m (fun x m' => (tg m' a).1 = t ∧ Q (.inl 0) env (pL m' a k x))) := by
  unfold wS wE sPutL
  apply propext
  rw [wBindS]
  simp only [wBindS, ifNS, some2]
theorem s_putR {t k : Nat} {o : Ev Nat} {e : Ev Nat} {Q : Re → qE → qM → Prop} : wS (sPutR t k o e) env M Q = wE o env M (fun a m => wE e env m (fun x m' => (tg m' a).1 = t ∧ Q (.inl 0) env (pR m' a k (some x)))) := by
  unfold wS wE sPutR
  apply propext
  rw [wBindS]
  simp only [wBindS, ifNS, some2]
theorem s_upI {t k : Nat} {o : Ev Nat} {g : Int32 → Int32 → Int32} {e : Ev Int32} {Q : Re → qE → qM → Prop} : wS (sUpI t k o g e) env M Q = wE o env M (fun a m => (tg m a).1 = t ∧ wE e env m (fun x m' => (tg m' a).1 = t ∧ Q (.inl 0) env (pI m' a k (g (vi m a k) x)))) := by
  unfold wS wE sUpI
  apply propext
  rw [wBindS]
  simp only [ifNS, wBindS, some2]
theorem s_AI {t : Nat} {a : Ev Nat} {i e : Ev Int32} {Q : Re → qE → qM → Prop} : wS (sAI t a i e) env M Q = wE a env M (fun o m => wE i env m (fun q m' => wE e env m' (fun x m2 => ((tg m2 o).1 = t ∧ inb q (tg m2 o).2 = true) ∧ Q (.inl 0) env (pI m2 o q.toNatClampNeg (nar t x))))) := by
  unfold wS wE sAI
  apply propext
  rw [wBindS]
  simp only [wBindS, ifNS, some2]
theorem s_AL {a : Ev Nat} {i : Ev Int32} {e : Ev Int64} {Q : Re → qE → qM → Prop} : wS (sAL a i e) env M Q = wE a env M (fun o m => wE i env m (fun q m' => wE e env m' (fun x m2 => ((tg m2 o).1 = 21 ∧ inb q (tg m2 o).2 = true) ∧ Q (.inl 0) env (pL m2 o q.toNatClampNeg x)))) := by
  unfold wS wE sAL
  apply propext
  rw [wBindS]
  simp only [wBindS, ifNS, some2]
theorem s_AR {a : Ev Nat} {i : Ev Int32} {e : Ev Nat} {Q : Re → qE → qM → Prop} : wS (sAR a i e) env M Q = wE a env M (fun o m => wE i env m (fun q m' => wE e env m' (fun x m2 => ((tg m2 o).1 = 24 ∧ inb q (tg m2 o).2 = true ∧ (tg m2 x).1 = 4) ∧ Q (.inl 0) env (pR m2 o q.toNatClampNeg (some x))))) := by
  unfold wS wE sAR
  apply propext
  rw [wBindS]
  simp only [wBindS, ifNS, some2]
theorem s_UA {a : Ev Nat} {i : Ev Int32} {g : Int32 → Int32 → Int32} {e : Ev Int32} {Q : Re → qE → qM → Prop} : wS (sUA a i g e) env M Q = wE a env M (fun o m => wE i env m (fun q m' => ((tg m' o).1 = 20 ∧ inb q (tg m' o).2 = true) ∧ wE e env m' (fun x m2 => ((tg m2 o).1 = 20 ∧ inb q (tg m2 o).2 = true) ∧ Q (.inl 0) env (pI m2 o q.toNatClampNeg (g (vi m' o q.toNatClampNeg) x))))) := by
  unfold wS wE sUA
  apply propext
  rw [wBindS]
  simp only [wBindS, ifNS, some2]
theorem s_exp {e : Ev α} {Q : Re → qE → qM → Prop} : wS (sExp e) env M Q = wE e env M (fun _ m => Q (.inl 0) env m) := by
  unfold wS wE sExp
  apply propext
  rw [wBindS]
  simp only [some2]
theorem s_ret {mk : α → Value} {e : Ev α} {Q : Re → qE → qM → Prop} : wS (sRet mk e) env M Q = wE e env M (fun x m => Q (.inr (some (mk x))) env m) := by
  unfold wS wE sRet
  apply propext
  rw [wBindS]
  simp only [some2]
theorem s_retZ {e : Ev Int32} {Q : Re → qE → qM → Prop} : wS (sRetZ e) env M Q = wE e env M (fun x m => okZ x = true ∧ Q (.inr (some (.int x))) env m) := by
  unfold wS wE sRetZ
  apply propext
  rw [wBindS]
  simp only [ifNS, some2]
theorem s_scope {n : Nat} {b : Sv} {Q : Re → qE → qM → Prop} : wS (sScope n b) env M Q = wS b env M (fun r e m => Q r (e.take n) m) := by
  unfold wS sScope
  apply propext
  constructor
  · rintro ⟨r, e, m, h, q⟩
    cases hb : b env M with
    | none => rw [hb] at h; cases h
    | some y => obtain ⟨r1, e1, m1⟩ := y; rw [hb] at h; cases h; exact ⟨r1, e1, m1, rfl, q⟩
  · rintro ⟨r, e, m, h, q⟩
    rw [h]; exact ⟨r, e.take n, m, rfl, q⟩
theorem s_unBrk {a : Sv} {Q : Re → qE → qM → Prop} : wS (unBrk a) env M Q = wS a env M (fun r e m => match r with | .inl 1 => Q (.inl 0) e m | _ => Q r e m) := by
  unfold wS unBrk
  apply propext
  constructor
  · rintro ⟨r, e, m, h, q⟩
    cases ha : a env M with
    | none => rw [ha] at h; cases h
    | some y =>
      obtain ⟨r1, e1, m1⟩ := y
      rw [ha] at h
      refine ⟨r1, e1, m1, rfl, ?_⟩
      match r1, h with
      | .inl 0, h => cases h; exact q
      | .inl 1, h => cases h; exact q
      | .inl (n + 2), h => cases h; exact q
      | .inr v, h => cases h; exact q
  · rintro ⟨r1, e1, m1, h, q⟩
    rw [h]
    match r1, q with
    | .inl 0, q => exact ⟨_, _, _, rfl, q⟩
    | .inl 1, q => exact ⟨_, _, _, rfl, q⟩
    | .inl (n + 2), q => exact ⟨_, _, _, rfl, q⟩
    | .inr v, q => exact ⟨_, _, _, rfl, q⟩
theorem s_sw {e : Ev Int32} {lo : Int} {bs : List Sv} {d : Sv} {Q : Re → qE → qM → Prop} : wS (sSw e lo bs d) env M Q = wE e env M (fun x m => wS (if x.toInt < lo then d else (bs[(x.toInt - lo).toNat]?).getD d) env m Q) := by
  unfold wS wE sSw
  apply propext
  rw [wBindS]
theorem f_of {n : Nat} {b : Sv} {vs : List Value} {Q : Option Value → qM → Prop} : wF (fnOf n b) vs M Q = ((argE vs).length = n ∧ wS b (argE vs) M (fun r _ m => match r with | .inr v => Q v m | _ => False)) := by
  unfold wF wS fnOf
  apply propext
  constructor
  · rintro ⟨v, m, h, q⟩
    split at h
    · rename_i hn
      refine ⟨hn, ?_⟩
      split at h
      · rename_i v' e' m' h'; cases h; exact ⟨_, _, _, h', q⟩
      · cases h
    · cases h
  · rintro ⟨hn, r, e, m, h, q⟩
    rw [if_pos hn, h]
    split at q
    · exact ⟨_, _, rfl, q⟩
    · exact q.elim
/-- a loop: I k holds ahead of a turn, k goes down with every turn -/
theorem s_loop {c : Ev Bool} {b u : Sv} {Q : Re → qE → qM → Prop} (I : Nat → qE → qM → Prop) (n : Nat) (h0 : I n env M)
    (step : ∀ k e m, I k e m → wE c e m (fun x m1 => if x = true then wS b e m1 (fun r e2 m2 => match r with
      | .inl 0 => wS u e2 m2 (fun r3 e3 m3 => r3 = .inl 0 ∧ ∃ k', k' < k ∧ I k' e3 m3)
      | .inl 2 => wS u e2 m2 (fun r3 e3 m3 => r3 = .inl 0 ∧ ∃ k', k' < k ∧ I k' e3 m3)
      | .inl 1 => Q (.inl 0) e2 m2
      | .inr v => Q (.inr v) e2 m2
      | _ => False) else Q (.inl 0) e m1)) : wS (sLoop c b u) env M Q := by
  have key : ∀ (k : Nat) (e : qE) (m : qM), I k e m → ∃ r e' m', loopR (lStep c b u) (e, m) = some (r, e', m') ∧ Q r e' m' := by
    intro k
    induction k using Nat.strongRecOn with
    | _ k ih =>
      intro e m hI
      obtain ⟨x, m1, hc, hx⟩ := step k e m hI
      rw [loopR_eq]
      have hls : lStep c b u (e, m) = (if x = true then
          (b e m1).bind fun q => match q.1 with
            | .inl 0 => (u q.2.1 q.2.2).bind fun z => match z.1 with | .inl 0 => some (.inl z.2) | _ => none
            | .inl 2 => (u q.2.1 q.2.2).bind fun z => match z.1 with | .inl 0 => some (.inl z.2) | _ => none
            | .inl 1 => some (.inr (.inl 0, q.2))
            | .inr v => some (.inr (.inr v, q.2))
            | _ => none
        else some (.inr (.inl 0, e, m1))) := by
        show ((c e m).bind _) = _
        rw [hc]; rfl
      by_cases hxt : x = true
      · rw [if_pos hxt] at hx hls
        obtain ⟨r, e2, m2, hb, hq⟩ := hx
        rw [hb] at hls
        split at hq
        · obtain ⟨r3, e3, m3, hu, rfl, k', hk, hI'⟩ := hq
          have : lStep c b u (e, m) = some (.inl (e3, m3)) := by rw [hls]; simp [hu]
          rw [this]
          exact ih k' hk e3 m3 hI'
        · obtain ⟨r3, e3, m3, hu, rfl, k', hk, hI'⟩ := hq
          have : lStep c b u (e, m) = some (.inl (e3, m3)) := by rw [hls]; simp [hu]
          rw [this]
          exact ih k' hk e3 m3 hI'
        · have : lStep c b u (e, m) = some (.inr (.inl 0, e2, m2)) := by rw [hls]; simp
          rw [this]
          exact ⟨_, _, _, rfl, hq⟩
        · rename_i v
          have : lStep c b u (e, m) = some (.inr (.inr v, e2, m2)) := by rw [hls]; simp
          rw [this]
          exact ⟨_, _, _, rfl, hq⟩
        · exact hq.elim
      · rw [if_neg hxt] at hx hls
        rw [hls]
        exact ⟨_, _, _, rfl, hx⟩
  obtain ⟨r, e', m', h1, h2⟩ := key n env M h0
  exact ⟨r, e', m', h1, h2⟩
end WP
