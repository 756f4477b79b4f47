/-! RULES: a construct, the bytecode that does it -/
def piI : Int32 → List Value := fun x => [.int x]
def piL : Int64 → List Value := fun x => [.long x]
def piA : Nat → List Value := fun a => [.ref a]
def piN : Option Nat → List Value := fun r => [va_rf r]
def piS (G : qG) : Nat → List Value := fun i => [.ref (gK G i)]
def piV (G : qG) : List Value → List Value := fun l => (l.map (cv G)).reverse
def piO (G : qG) : Option Value → List Value := fun v => v.toList
def piU : Unit → List Value := fun _ => []
theorem wI : ∀ x, wt (piI x) ≤ 1 := fun _ => Nat.le_refl _
theorem wL : ∀ x, wt (piL x) ≤ 2 := fun _ => Nat.le_refl _
theorem wA : ∀ x, wt (piA x) ≤ 1 := fun _ => Nat.le_refl _
theorem wt_app (a b : List Value) : wt (a ++ b) = wt a + wt b := by simp [wt]
theorem bnd {α β : Type} {x : Option α} {f : α → Option β} {y : β} (h : x.bind f = some y) : ∃ a, x = some a ∧ f a = some y := Option.bind_eq_some_iff.mp h
def Op1 {α β : Type} (G : qG) (K : qK) (pc pc' : Nat) (π : α → List Value) (ρ : β → List Value) (f : α → β) : Prop := ∀ w mt b vF MF, Mx G K w mt b vF MF → ∀ (x : α) (st : List Value) (ls : Array Slot) (H : Heap) (locs : List Loc) (cells slots : Nat), w H locs cells slots (F0 mt pc' ls (ρ (f x) ++ st)) → w H locs cells slots (F0 mt pc ls (π x ++ st))
def Op2 {α β γ : Type} (G : qG) (K : qK) (pc pc' : Nat) (π : α → List Value) (ρ : β → List Value) (τ : γ → List Value) (f : α → β → γ) : Prop := ∀ w mt b vF MF, Mx G K w mt b vF MF → ∀ (x : α) (y : β) (st : List Value) (ls : Array Slot) (H : Heap) (locs : List Loc) (cells slots : Nat), w H locs cells slots (F0 mt pc' ls (τ (f x y) ++ st)) → w H locs cells slots (F0 mt pc ls (ρ y ++ (π x ++ st)))
section RU
variable {G : qG} {K : qK}
theorem x1 {α β : Type} {d pc p1 p2 : Nat} {π : α → List Value} {ρ : β → List Value} {a : Ev α} {f : α → β} (ha : XP G K d pc p1 π a) (hq : Op1 G K p1 p2 π ρ f) : XP G K d pc p2 ρ (b1 f a) := by
  refine ⟨fun env M x M' h => ?_, ?_⟩
  · obtain ⟨r, h1, h2⟩ := bnd h
    cases h2
    exact ha.1 env M r.1 r.2 h1
  · intro w mt b vF MF hm env M x M' hf hn hu st ls H locs cells slots hst hl ho kk
    obtain ⟨r, h1, h2⟩ := bnd hf
    cases h2
    exact ha.2 w mt b vF MF hm env M r.1 r.2 h1 hn hu st ls H locs cells slots hst hl ho (fun H' l' c' s' o' => hq w mt b vF MF hm r.1 st ls H' l' c' s' (kk H' l' c' s' o'))
/-- two operands, one behind the other -/
theorem xx {α β γ : Type} {d1 d2 k pc p1 p2 p3 : Nat} {π : α → List Value} {ρ : β → List Value} {τ : γ → List Value} {a : Ev α} {c : Ev β} {g : Ev γ} (ha : XP G K d1 pc p1 π a) (hπ : ∀ x, wt (π x) ≤ k) (hc : XP G K d2 p1 p2 ρ c)
    (hg : ∀ env M z M', g env M = some (z, M') → ∃ r q, a env M = some r ∧ c env r.2 = some q ∧ mN q.2 ≤ mN M' ∧ mU q.2 ≤ mU M' ∧ ∀ w mt b vF MF, Mx G K w mt b vF MF → mN M' ≤ mN MF → mU M' ≤ mU MF → ∀ (st : List Value) (ls : Array Slot) (H : Heap) (locs : List Loc) (cells slots : Nat), wt st ≤ 8 → ls.size = kL K → Ok G b q.2 H locs cells slots → (∀ H' locs' cells' slots', Ok G b M' H' locs' cells' slots' → w H' locs' cells' slots' (F0 mt p3 ls (τ z ++ st))) → w H locs cells slots (F0 mt p2 ls (ρ q.1 ++ (π r.1 ++ st)))) : XP G K (max d1 (d2 + k)) pc p3 τ g := by
  refine ⟨fun env M x M' h => ?_, ?_⟩
  · obtain ⟨r, q, h1, h2, h3, h4, -⟩ := hg env M x M' h
    have a1 := ha.1 env M r.1 r.2 h1
    have a2 := hc.1 env r.2 q.1 q.2 h2
    exact ⟨by omega, by omega⟩
  · intro w mt b vF MF hm env M x M' hf hn hu st ls H locs cells slots hst hl ho kk
    obtain ⟨r, q, h1, h2, h3, h4, h5⟩ := hg env M x M' hf
    have a2 := hc.1 env r.2 q.1 q.2 h2
    refine ha.2 w mt b vF MF hm env M r.1 r.2 h1 (by omega) (by omega) st ls H locs cells slots (by omega) hl ho (fun H' l' c' s' o' => ?_)
    have hw := hπ r.1
    exact hc.2 w mt b vF MF hm env r.2 q.1 q.2 h2 (by omega) (by omega) (π r.1 ++ st) ls H' l' c' s' (by rw [wt_app]; omega) hl o' (fun H'' l'' c'' s'' o'' => h5 w mt b vF MF hm hn hu st ls H'' l'' c'' s'' (by omega) hl.1 o'' kk)
theorem x2 {α β γ : Type} {d1 d2 k pc p1 p2 p3 : Nat} {π : α → List Value} {ρ : β → List Value} {τ : γ → List Value} {a : Ev α} {c : Ev β} {f : α → β → γ} (ha : XP G K d1 pc p1 π a) (hπ : ∀ x, wt (π x) ≤ k) (hc : XP G K d2 p1 p2 ρ c) (hq : Op2 G K p2 p3 π ρ τ f) : XP G K (max d1 (d2 + k)) pc p3 τ (b2 f a c) := by
  refine xx ha hπ hc (fun env M z M' h => ?_)
  obtain ⟨r, h1, h2⟩ := bnd h
  obtain ⟨q, h3, h4⟩ := bnd h2
  cases h4
  exact ⟨r, q, h1, h3, Nat.le_refl _, Nat.le_refl _, fun w mt b vF MF hm _ _ st ls H locs cells slots _ _ o kk => hq w mt b vF MF hm r.1 q.1 st ls H locs cells slots (kk H locs cells slots o)⟩
theorem x0 {d1 d2 pc p1 p2 : Nat} {f : Int32 → Int32 → Int32} {a c : Ev Int32} (ha : XP G K d1 pc p1 piI a) (hc : XP G K d2 p1 p2 piI c) (hq : ∀ w mt b vF MF, Mx G K w mt b vF MF → ∀ (x y : Int32) (st : List Value) (ls : Array Slot) (H : Heap) (locs : List Loc) (cells slots : Nat), ¬ y = 0 → w H locs cells slots (F0 mt (p2 + 1) ls (.int (f x y) :: st)) → w H locs cells slots (F0 mt p2 ls (.int y :: .int x :: st))) : XP G K (max d1 (d2 + 1)) pc (p2 + 1) piI (b0 f a c) := by
  refine xx ha wI hc (fun env M z M' h => ?_)
  obtain ⟨r, h1, h2⟩ := bnd h
  obtain ⟨q, h3, h4⟩ := bnd h2
  split at h4
  · cases h4
  · rename_i hne
    cases h4
    exact ⟨r, q, h1, h3, Nat.le_refl _, Nat.le_refl _, fun w mt b vF MF hm _ _ st ls H locs cells slots _ _ o kk => hq w mt b vF MF hm r.1 q.1 st ls H locs cells slots hne (kk H locs cells slots o)⟩
theorem x0L {d1 d2 pc p1 p2 : Nat} {f : Int64 → Int64 → Int64} {a c : Ev Int64} (ha : XP G K d1 pc p1 piL a) (hc : XP G K d2 p1 p2 piL c) (hq : ∀ w mt b vF MF, Mx G K w mt b vF MF → ∀ (x y : Int64) (st : List Value) (ls : Array Slot) (H : Heap) (locs : List Loc) (cells slots : Nat), ¬ y = 0 → w H locs cells slots (F0 mt (p2 + 1) ls (.long (f x y) :: st)) → w H locs cells slots (F0 mt p2 ls (.long y :: .long x :: st))) : XP G K (max d1 (d2 + 2)) pc (p2 + 1) piL (b0L f a c) := by
  refine xx ha wL hc (fun env M z M' h => ?_)
  obtain ⟨r, h1, h2⟩ := bnd h
  obtain ⟨q, h3, h4⟩ := bnd h2
  split at h4
  · cases h4
  · rename_i hne
    cases h4
    exact ⟨r, q, h1, h3, Nat.le_refl _, Nat.le_refl _, fun w mt b vF MF hm _ _ st ls H locs cells slots _ _ o kk => hq w mt b vF MF hm r.1 q.1 st ls H locs cells slots hne (kk H locs cells slots o)⟩

theorem o_iadd {pc : Nat} (hd : decode (kC K) pc = .ok (.iadd, 1)) : Op2 G K pc (pc + 1) piI piI piI (fun x y => x + y : Int32 → Int32 → Int32) := by
  intro w mt b vF MF hm x y st ls H locs cells slots kk
  obtain ⟨p, e, R, s, args, below, meth, c, Q, rfl, hx, hb, hml, hown, hK, hnm, hR1, hR2, hR3, hR4, hret⟩ := hm
  exact lv_iadd hx hb hd kk
theorem o_isub {pc : Nat} (hd : decode (kC K) pc = .ok (.isub, 1)) : Op2 G K pc (pc + 1) piI piI piI (fun x y => x - y : Int32 → Int32 → Int32) := by
  intro w mt b vF MF hm x y st ls H locs cells slots kk
  obtain ⟨p, e, R, s, args, below, meth, c, Q, rfl, hx, hb, hml, hown, hK, hnm, hR1, hR2, hR3, hR4, hret⟩ := hm
  exact lv_isub hx hb hd kk
theorem o_imul {pc : Nat} (hd : decode (kC K) pc = .ok (.imul, 1)) : Op2 G K pc (pc + 1) piI piI piI (fun x y => x * y : Int32 → Int32 → Int32) := by
  intro w mt b vF MF hm x y st ls H locs cells slots kk
  obtain ⟨p, e, R, s, args, below, meth, c, Q, rfl, hx, hb, hml, hown, hK, hnm, hR1, hR2, hR3, hR4, hret⟩ := hm
  exact lv_imul hx hb hd kk
theorem o_iand {pc : Nat} (hd : decode (kC K) pc = .ok (.iand, 1)) : Op2 G K pc (pc + 1) piI piI piI (fun x y => x &&& y : Int32 → Int32 → Int32) := by
  intro w mt b vF MF hm x y st ls H locs cells slots kk
  obtain ⟨p, e, R, s, args, below, meth, c, Q, rfl, hx, hb, hml, hown, hK, hnm, hR1, hR2, hR3, hR4, hret⟩ := hm
  exact lv_iand hx hb hd kk
theorem o_ior {pc : Nat} (hd : decode (kC K) pc = .ok (.ior, 1)) : Op2 G K pc (pc + 1) piI piI piI (fun x y => x ||| y : Int32 → Int32 → Int32) := by
  intro w mt b vF MF hm x y st ls H locs cells slots kk
  obtain ⟨p, e, R, s, args, below, meth, c, Q, rfl, hx, hb, hml, hown, hK, hnm, hR1, hR2, hR3, hR4, hret⟩ := hm
  exact lv_ior hx hb hd kk
theorem o_ixor {pc : Nat} (hd : decode (kC K) pc = .ok (.ixor, 1)) : Op2 G K pc (pc + 1) piI piI piI (fun x y => x ^^^ y : Int32 → Int32 → Int32) := by
  intro w mt b vF MF hm x y st ls H locs cells slots kk
  obtain ⟨p, e, R, s, args, below, meth, c, Q, rfl, hx, hb, hml, hown, hK, hnm, hR1, hR2, hR3, hR4, hret⟩ := hm
  exact lv_ixor hx hb hd kk
theorem o_ishl {pc : Nat} (hd : decode (kC K) pc = .ok (.ishl, 1)) : Op2 G K pc (pc + 1) piI piI piI (shlI : Int32 → Int32 → Int32) := by
  intro w mt b vF MF hm x y st ls H locs cells slots kk
  obtain ⟨p, e, R, s, args, below, meth, c, Q, rfl, hx, hb, hml, hown, hK, hnm, hR1, hR2, hR3, hR4, hret⟩ := hm
  exact lv_ishl hx hb hd kk
theorem o_ishr {pc : Nat} (hd : decode (kC K) pc = .ok (.ishr, 1)) : Op2 G K pc (pc + 1) piI piI piI (shrI : Int32 → Int32 → Int32) := by
  intro w mt b vF MF hm x y st ls H locs cells slots kk
  obtain ⟨p, e, R, s, args, below, meth, c, Q, rfl, hx, hb, hml, hown, hK, hnm, hR1, hR2, hR3, hR4, hret⟩ := hm
  exact lv_ishr hx hb hd kk
theorem o_ladd {pc : Nat} (hd : decode (kC K) pc = .ok (.ladd, 1)) : Op2 G K pc (pc + 1) piL piL piL (fun x y => x + y : Int64 → Int64 → Int64) := by
  intro w mt b vF MF hm x y st ls H locs cells slots kk
  obtain ⟨p, e, R, s, args, below, meth, c, Q, rfl, hx, hb, hml, hown, hK, hnm, hR1, hR2, hR3, hR4, hret⟩ := hm
  exact lv_ladd hx hb hd kk
theorem o_lsub {pc : Nat} (hd : decode (kC K) pc = .ok (.lsub, 1)) : Op2 G K pc (pc + 1) piL piL piL (fun x y => x - y : Int64 → Int64 → Int64) := by
  intro w mt b vF MF hm x y st ls H locs cells slots kk
  obtain ⟨p, e, R, s, args, below, meth, c, Q, rfl, hx, hb, hml, hown, hK, hnm, hR1, hR2, hR3, hR4, hret⟩ := hm
  exact lv_lsub hx hb hd kk
theorem o_lmul {pc : Nat} (hd : decode (kC K) pc = .ok (.lmul, 1)) : Op2 G K pc (pc + 1) piL piL piL (fun x y => x * y : Int64 → Int64 → Int64) := by
  intro w mt b vF MF hm x y st ls H locs cells slots kk
  obtain ⟨p, e, R, s, args, below, meth, c, Q, rfl, hx, hb, hml, hown, hK, hnm, hR1, hR2, hR3, hR4, hret⟩ := hm
  exact lv_lmul hx hb hd kk
theorem o_i2l {pc : Nat} (hd : decode (kC K) pc = .ok (.i2l, 1)) : Op1 G K pc (pc + 1) piI piL Int32.toInt64 := by
  intro w mt b vF MF hm x st ls H locs cells slots kk
  obtain ⟨p, e, R, s, args, below, meth, c, Q, rfl, hx, hb, hml, hown, hK, hnm, hR1, hR2, hR3, hR4, hret⟩ := hm
  exact lv_i2l hx hb hd rfl kk
theorem o_i2b {pc : Nat} (hd : decode (kC K) pc = .ok (.i2b, 1)) : Op1 G K pc (pc + 1) piI piI (fun x => x.toInt8.toInt32) := by
  intro w mt b vF MF hm x st ls H locs cells slots kk
  obtain ⟨p, e, R, s, args, below, meth, c, Q, rfl, hx, hb, hml, hown, hK, hnm, hR1, hR2, hR3, hR4, hret⟩ := hm
  exact lv_i2b hx hb hd rfl kk
theorem x_idiv {d1 d2 pc p1 p2 : Nat} {a c : Ev Int32} (ha : XP G K d1 pc p1 piI a) (hc : XP G K d2 p1 p2 piI c) (hd : decode (kC K) p2 = .ok (.idiv, 1)) : XP G K (max d1 (d2 + 1)) pc (p2 + 1) piI (b0 (fun x y => x / y) a c) := by
  refine x0 ha hc (fun w mt b vF MF hm x y st ls H locs cells slots hne kk => ?_)
  obtain ⟨p, e, R, s, args, below, meth, c, Q, rfl, hx, hb, hml, hown, hK, hnm, hR1, hR2, hR3, hR4, hret⟩ := hm
  exact lv_idiv hx hb hd hne kk
theorem x_irem {d1 d2 pc p1 p2 : Nat} {a c : Ev Int32} (ha : XP G K d1 pc p1 piI a) (hc : XP G K d2 p1 p2 piI c) (hd : decode (kC K) p2 = .ok (.irem, 1)) : XP G K (max d1 (d2 + 1)) pc (p2 + 1) piI (b0 remI a c) := by
  refine x0 ha hc (fun w mt b vF MF hm x y st ls H locs cells slots hne kk => ?_)
  obtain ⟨p, e, R, s, args, below, meth, c, Q, rfl, hx, hb, hml, hown, hK, hnm, hR1, hR2, hR3, hR4, hret⟩ := hm
  exact lv_irem hx hb hd hne kk
theorem x_ldiv {d1 d2 pc p1 p2 : Nat} {a c : Ev Int64} (ha : XP G K d1 pc p1 piL a) (hc : XP G K d2 p1 p2 piL c) (hd : decode (kC K) p2 = .ok (.ldiv, 1)) : XP G K (max d1 (d2 + 2)) pc (p2 + 1) piL (b0L (fun x y => x / y) a c) := by
  refine x0L ha hc (fun w mt b vF MF hm x y st ls H locs cells slots hne kk => ?_)
  obtain ⟨p, e, R, s, args, below, meth, c, Q, rfl, hx, hb, hml, hown, hK, hnm, hR1, hR2, hR3, hR4, hret⟩ := hm
  exact lv_ldiv hx hb hd hne kk
/-- what only looks at locals, and pushes -/
theorem xl {α : Type} {pc p1 : Nat} {π : α → List Value} {f : Ev α} {g : qE → Option α} (hg : ∀ env M, f env M = (g env).map fun x => (x, M)) (h : ∀ w mt b vF MF, Mx G K w mt b vF MF → ∀ (env : qE) (x : α) (st : List Value) (ls : Array Slot) (H : Heap) (locs : List Loc) (cells slots : Nat), g env = some x → Lk G K env ls → w H locs cells slots (F0 mt p1 ls (π x ++ st)) → w H locs cells slots (F0 mt pc ls st)) : XP G K 0 pc p1 π f := by
  have key : ∀ env M x M', f env M = some (x, M') → g env = some x ∧ M' = M := by
    intro env M x M' hf
    rw [hg] at hf
    cases hge : g env with
    | none => simp [hge] at hf
    | some y => simp [hge] at hf; exact ⟨by rw [hf.1], hf.2.symm⟩
  refine ⟨fun env M x M' hf => ?_, ?_⟩
  · obtain ⟨-, rfl⟩ := key env M x M' hf
    exact ⟨Nat.le_refl _, Nat.le_refl _⟩
  · intro w mt b vF MF hm env M x M' hf hn hu st ls H locs cells slots hst hl ho kk
    obtain ⟨h1, rfl⟩ := key env M x M' hf
    exact h w mt b vF MF hm env x st ls H locs cells slots h1 hl (kk H locs cells slots ho)
theorem x_iconst {pc : Nat} {n : Int} {v : Int32} (hd : decode (kC K) pc = .ok (.iconst n, 1)) (hv : Int32.ofInt n = v) : XP G K 0 pc (pc + 1) piI (eK v) := by
  refine xl (g := fun _ => some v) (fun _ _ => rfl) (fun w mt b vF MF hm env x st ls H locs cells slots hg _ kk => ?_)
  cases hg
  obtain ⟨p, e, R, s, args, below, meth, c, Q, rfl, hx, hb, hml, hown, hK, hnm, hR1, hR2, hR3, hR4, hret⟩ := hm
  exact lv_iconst hx hb hd hv kk
theorem x_bipush {pc : Nat} {n : Int} {v : Int32} (hd : decode (kC K) pc = .ok (.bipush n, 2)) (hv : (Int8.ofInt n).toInt32 = v) : XP G K 0 pc (pc + 2) piI (eK v) := by
  refine xl (g := fun _ => some v) (fun _ _ => rfl) (fun w mt b vF MF hm env x st ls H locs cells slots hg _ kk => ?_)
  cases hg
  obtain ⟨p, e, R, s, args, below, meth, c, Q, rfl, hx, hb, hml, hown, hK, hnm, hR1, hR2, hR3, hR4, hret⟩ := hm
  exact lv_bipush hx hb hd hv kk
theorem x_sipush {pc : Nat} {n : Int} {v : Int32} (hd : decode (kC K) pc = .ok (.sipush n, 3)) (hv : (Int16.ofInt n).toInt32 = v) : XP G K 0 pc (pc + 3) piI (eK v) := by
  refine xl (g := fun _ => some v) (fun _ _ => rfl) (fun w mt b vF MF hm env x st ls H locs cells slots hg _ kk => ?_)
  cases hg
  obtain ⟨p, e, R, s, args, below, meth, c, Q, rfl, hx, hb, hml, hown, hK, hnm, hR1, hR2, hR3, hR4, hret⟩ := hm
  exact lv_sipush hx hb hd hv kk
theorem x_lconst {pc : Nat} {n : Fin 2} {v : Int64} (hd : decode (kC K) pc = .ok (.lconst n, 1)) (hv : Int64.ofNat (n : Nat) = v) : XP G K 0 pc (pc + 1) piL (eK v) := by
  refine xl (g := fun _ => some v) (fun _ _ => rfl) (fun w mt b vF MF hm env x st ls H locs cells slots hg _ kk => ?_)
  cases hg
  obtain ⟨p, e, R, s, args, below, meth, c, Q, rfl, hx, hb, hml, hown, hK, hnm, hR1, hR2, hR3, hR4, hret⟩ := hm
  exact lv_lconst hx hb hd hv kk
theorem x_ldc {pc i : Nat} {v : Int32} (hd : decode (kC K) pc = .ok (.ldc i, 2)) (hc : Cond.constant (kY K).cls i v ∈ TBL) : XP G K 0 pc (pc + 2) piI (eK v) := by
  refine xl (g := fun _ => some v) (fun _ _ => rfl) (fun w mt b vF MF hm env x st ls H locs cells slots hg _ kk => ?_)
  cases hg
  obtain ⟨p, e, R, s, args, below, meth, c, Q, rfl, hx, hb, hml, hown, hK, hnm, hR1, hR2, hR3, hR4, hret⟩ := hm
  exact lv_ldc hx hb hown (hK.word hc args) hd kk
theorem x_ldc2 {pc i : Nat} {v : Int64} (hd : decode (kC K) pc = .ok (.ldc2_w i, 3)) (hc : Cond.constantLong (kY K).cls i v ∈ TBL) : XP G K 0 pc (pc + 3) piL (eK v) := by
  refine xl (g := fun _ => some v) (fun _ _ => rfl) (fun w mt b vF MF hm env x st ls H locs cells slots hg _ kk => ?_)
  cases hg
  obtain ⟨p, e, R, s, args, below, meth, c, Q, rfl, hx, hb, hml, hown, hK, hnm, hR1, hR2, hR3, hR4, hret⟩ := hm
  exact lv_ldc2 hx hb hown (hK.word hc args) hd kk
theorem x_ldcS {pc k i : Nat} {tx : String} (hd : decode (kC K) pc = .ok (.ldc k, 2)) (hi : sT[i]? = some ((kY K).cls, k, tx)) : XP G K 0 pc (pc + 2) (piS G) (eK i) := by
  refine xl (g := fun _ => some i) (fun _ _ => rfl) (fun w mt b vF MF hm env x st ls H locs cells slots hg _ kk => ?_)
  cases hg
  obtain ⟨p, e, R, s, args, below, meth, c, Q, rfl, hx, hb, hml, hown, hK, hnm, hR1, hR2, hR3, hR4, hret⟩ := hm
  exact va_ldcS hx hb hown (hK.2.2.2.2.2.1 i _ hi).1 hd kk
theorem x_ldcwS {pc k i : Nat} {tx : String} (hd : decode (kC K) pc = .ok (.ldc_w k, 3)) (hi : sT[i]? = some ((kY K).cls, k, tx)) : XP G K 0 pc (pc + 3) (piS G) (eK i) := by
  refine xl (g := fun _ => some i) (fun _ _ => rfl) (fun w mt b vF MF hm env x st ls H locs cells slots hg _ kk => ?_)
  cases hg
  obtain ⟨p, e, R, s, args, below, meth, c, Q, rfl, hx, hb, hml, hown, hK, hnm, hR1, hR2, hR3, hR4, hret⟩ := hm
  have hZ := (hK.2.2.2.2.2.1 i _ hi).1
  intro T hT X
  obtain ⟨t, a1, b1⟩ := kk T hT X
  refine ⟨t, ?_, b1⟩
  obtain ⟨k0, cf, i0, a', hk, hcf, hcp, -, hr, hev'⟩ := Cond.stringRef_spec hown hZ.1
  cases hZ.2.symm.trans hev'
  obtain ⟨k', hk', he⟩ := X.warmed.alike.2.2 _ _ hk
  have hr' : k'.resolved[k]? = some (some (.string (gK G i))) := by
    rcases X.warmed.entry hk hk' k with h | ⟨h, -⟩
    · rw [h]; exact hr
    · rw [hr] at h; cases h
  have hdg : decode c.code (F0 mt pc ls st).pc = .ok (.ldc_w k, 3) := by rw [hb]; exact hd
  jvm_step X.here [hx, hdg, ldc_w.wp_string (e := e) (s := T) (f := F0 mt pc ls st) X.here.top hk' (by rw [he]; exact hcf) hcp hr']
  exact a1
def eT (i : Nat) : Ev Nat := fun env M => match env[i]? with | some (.retAddr x) => some (x, M) | _ => none

theorem x_iload_n {pc i : Nat} {k : Fin 4} (hd : decode (kC K) pc = .ok (.iload_n k, 1)) (hki : (k : Nat) = i) : XP G K 0 pc (pc + 1) piI (eI i) := by
  subst hki
  refine xl (g := fun env => match env[(k : Nat)]? with | some (.int x) => some x | _ => none) (fun env M => by unfold eI; split <;> simp_all) (fun w mt b vF MF hm env x st ls H locs cells slots hg hl kk => ?_)
  have he : env[(k : Nat)]? = some (.int x) := by
    split at hg
    · rename_i h; cases hg; exact h
    · cases hg
  have hs := hl.2.2 (k : Nat) (.int x) he (by simp)
  obtain ⟨p, e, R, s, args, below, meth, c, Q, rfl, hx, hb, hml, hown, hK, hnm, hR1, hR2, hR3, hR4, hret⟩ := hm
  exact lv_iload_n hx hb hd rfl hs kk
theorem x_iload {pc i : Nat} (hd : decode (kC K) pc = .ok (.iload i, 2)) : XP G K 0 pc (pc + 2) piI (eI i) := by
  refine xl (g := fun env => match env[i]? with | some (.int x) => some x | _ => none) (fun env M => by unfold eI; split <;> simp_all) (fun w mt b vF MF hm env x st ls H locs cells slots hg hl kk => ?_)
  have he : env[i]? = some (.int x) := by
    split at hg
    · rename_i h; cases hg; exact h
    · cases hg
  have hs := hl.2.2 i (.int x) he (by simp)
  obtain ⟨p, e, R, s, args, below, meth, c, Q, rfl, hx, hb, hml, hown, hK, hnm, hR1, hR2, hR3, hR4, hret⟩ := hm
  exact lv_iload hx hb hd hs kk
theorem x_lload_n {pc i : Nat} {k : Fin 4} (hd : decode (kC K) pc = .ok (.lload_n k, 1)) (hki : (k : Nat) = i) : XP G K 0 pc (pc + 1) piL (eL i) := by
  subst hki
  refine xl (g := fun env => match env[(k : Nat)]? with | some (.long x) => some x | _ => none) (fun env M => by unfold eL; split <;> simp_all) (fun w mt b vF MF hm env x st ls H locs cells slots hg hl kk => ?_)
  have he : env[(k : Nat)]? = some (.long x) := by
    split at hg
    · rename_i h; cases hg; exact h
    · cases hg
  have hs := hl.2.2 (k : Nat) (.long x) he (by simp)
  obtain ⟨p, e, R, s, args, below, meth, c, Q, rfl, hx, hb, hml, hown, hK, hnm, hR1, hR2, hR3, hR4, hret⟩ := hm
  exact lv_lload_n hx hb hd rfl hs kk
theorem x_lload {pc i : Nat} (hd : decode (kC K) pc = .ok (.lload i, 2)) : XP G K 0 pc (pc + 2) piL (eL i) := by
  refine xl (g := fun env => match env[i]? with | some (.long x) => some x | _ => none) (fun env M => by unfold eL; split <;> simp_all) (fun w mt b vF MF hm env x st ls H locs cells slots hg hl kk => ?_)
  have he : env[i]? = some (.long x) := by
    split at hg
    · rename_i h; cases hg; exact h
    · cases hg
  have hs := hl.2.2 i (.long x) he (by simp)
  obtain ⟨p, e, R, s, args, below, meth, c, Q, rfl, hx, hb, hml, hown, hK, hnm, hR1, hR2, hR3, hR4, hret⟩ := hm
  exact lv_lload hx hb hd hs kk
theorem x_aload_n {pc i : Nat} {k : Fin 4} (hd : decode (kC K) pc = .ok (.aload_n k, 1)) (hki : (k : Nat) = i) : XP G K 0 pc (pc + 1) piA (eR i) := by
  subst hki
  refine xl (g := fun env => match env[(k : Nat)]? with | some (.ref x) => some x | _ => none) (fun env M => by unfold eR; split <;> simp_all) (fun w mt b vF MF hm env x st ls H locs cells slots hg hl kk => ?_)
  have he : env[(k : Nat)]? = some (.ref x) := by
    split at hg
    · rename_i h; cases hg; exact h
    · cases hg
  have hs := hl.2.2 (k : Nat) (.ref x) he (by simp)
  obtain ⟨p, e, R, s, args, below, meth, c, Q, rfl, hx, hb, hml, hown, hK, hnm, hR1, hR2, hR3, hR4, hret⟩ := hm
  exact lv_aload_n hx hb hd rfl hs kk
theorem x_aload {pc i : Nat} (hd : decode (kC K) pc = .ok (.aload i, 2)) : XP G K 0 pc (pc + 2) piA (eR i) := by
  refine xl (g := fun env => match env[i]? with | some (.ref x) => some x | _ => none) (fun env M => by unfold eR; split <;> simp_all) (fun w mt b vF MF hm env x st ls H locs cells slots hg hl kk => ?_)
  have he : env[i]? = some (.ref x) := by
    split at hg
    · rename_i h; cases hg; exact h
    · cases hg
  have hs := hl.2.2 i (.ref x) he (by simp)
  obtain ⟨p, e, R, s, args, below, meth, c, Q, rfl, hx, hb, hml, hown, hK, hnm, hR1, hR2, hR3, hR4, hret⟩ := hm
  exact lv_aload hx hb hd hs kk
theorem x_aloadS_n {pc i : Nat} {k : Fin 4} (hd : decode (kC K) pc = .ok (.aload_n k, 1)) (hki : (k : Nat) = i) : XP G K 0 pc (pc + 1) (piS G) (eT i) := by
  subst hki
  refine xl (g := fun env => match env[(k : Nat)]? with | some (.retAddr x) => some x | _ => none) (fun env M => by unfold eT; split <;> simp_all) (fun w mt b vF MF hm env x st ls H locs cells slots hg hl kk => ?_)
  have he : env[(k : Nat)]? = some (.retAddr x) := by
    split at hg
    · rename_i h; cases hg; exact h
    · cases hg
  have hs := hl.2.2 (k : Nat) (.retAddr x) he (by simp)
  obtain ⟨p, e, R, s, args, below, meth, c, Q, rfl, hx, hb, hml, hown, hK, hnm, hR1, hR2, hR3, hR4, hret⟩ := hm
  exact lv_aload_n hx hb hd rfl hs kk
theorem x_aloadS {pc i : Nat} (hd : decode (kC K) pc = .ok (.aload i, 2)) : XP G K 0 pc (pc + 2) (piS G) (eT i) := by
  refine xl (g := fun env => match env[i]? with | some (.retAddr x) => some x | _ => none) (fun env M => by unfold eT; split <;> simp_all) (fun w mt b vF MF hm env x st ls H locs cells slots hg hl kk => ?_)
  have he : env[i]? = some (.retAddr x) := by
    split at hg
    · rename_i h; cases hg; exact h
    · cases hg
  have hs := hl.2.2 i (.retAddr x) he (by simp)
  obtain ⟨p, e, R, s, args, below, meth, c, Q, rfl, hx, hb, hml, hown, hK, hnm, hR1, hR2, hR3, hR4, hret⟩ := hm
  exact lv_aload hx hb hd hs kk
end RU
