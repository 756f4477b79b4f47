/-! THE PURE MACHINE: memory qM = ((next address, slots used), tags, ints, longs, references); a tag is (kind, length): kind 0 nothing, t+1 an object of class number t, 20 int[], 21 long[], 22 byte[], 23 boolean[], 24 Loom[] -/
abbrev qM : Type := (Nat × Nat) × (Nat → Nat × Nat) × (Nat → Nat → Int32) × (Nat → Nat → Int64) × (Nat → Nat → Option Nat)
def mN (M : qM) : Nat := M.1.1
def mU (M : qM) : Nat := M.1.2
def tg (M : qM) : Nat → Nat × Nat := M.2.1
def vi (M : qM) : Nat → Nat → Int32 := M.2.2.1
def vl (M : qM) : Nat → Nat → Int64 := M.2.2.2.1
def vr (M : qM) : Nat → Nat → Option Nat := M.2.2.2.2
def u2 {α : Type} (f : Nat → Nat → α) (a k : Nat) (x : α) : Nat → Nat → α := fun b j => if b = a ∧ j = k then x else f b j
def pI (M : qM) (a k : Nat) (x : Int32) : qM := (M.1, M.2.1, u2 M.2.2.1 a k x, M.2.2.2)
def pL (M : qM) (a k : Nat) (x : Int64) : qM := (M.1, M.2.1, M.2.2.1, u2 M.2.2.2.1 a k x, M.2.2.2.2)
def pR (M : qM) (a k : Nat) (x : Option Nat) : qM := (M.1, M.2.1, M.2.2.1, M.2.2.2.1, u2 M.2.2.2.2 a k x)
/-- a new cell of kind t and length n at the next address -/
def mk1 (M : qM) (t n : Nat) : qM := ((M.1.1 + 1, M.1.2 + n), (fun b => if b = M.1.1 then (t, n) else M.2.1 b), (fun b j => if b = M.1.1 then 0 else M.2.2.1 b j), (fun b j => if b = M.1.1 then 0 else M.2.2.2.1 b j), (fun b j => if b = M.1.1 then none else M.2.2.2.2 b j))
/-- locals: what is live; .null is 'unknown' -/
abbrev qE : Type := List Value
abbrev Ev (α : Type) : Type := qE → qM → Option (α × qM)
abbrev Fn : Type := List Value → qM → Option (Option Value × qM)
def eK {α : Type} (x : α) : Ev α := fun _ M => some (x, M)
def eI (i : Nat) : Ev Int32 := fun env M => match env[i]? with | some (.int x) => some (x, M) | _ => none
def eL (i : Nat) : Ev Int64 := fun env M => match env[i]? with | some (.long x) => some (x, M) | _ => none
def eR (i : Nat) : Ev Nat := fun env M => match env[i]? with | some (.ref x) => some (x, M) | _ => none
def b1 {α β : Type} (f : α → β) (a : Ev α) : Ev β := fun env M => (a env M).bind fun r => some (f r.1, r.2)
def b2 {α β γ : Type} (f : α → β → γ) (a : Ev α) (b : Ev β) : Ev γ := fun env M => (a env M).bind fun r => (b env r.2).bind fun q => some (f r.1 q.1, q.2)
/-- a division: the divisor isn't 0 -/
def b0 {γ : Type} (f : Int32 → Int32 → γ) (a b : Ev Int32) : Ev γ := fun env M => (a env M).bind fun r => (b env r.2).bind fun q => if q.1 = 0 then none else some (f r.1 q.1, q.2)
def b0L (f : Int64 → Int64 → Int64) (a b : Ev Int64) : Ev Int64 := fun env M => (a env M).bind fun r => (b env r.2).bind fun q => if q.1 = 0 then none else some (f r.1 q.1, q.2)
/-- fields: t the class' tag, k the field's place -/
def gI (t k : Nat) (a : Ev Nat) : Ev Int32 := fun env M => (a env M).bind fun r => if (tg r.2 r.1).1 = t then some (vi r.2 r.1 k, r.2) else none
def gL (t k : Nat) (a : Ev Nat) : Ev Int64 := fun env M => (a env M).bind fun r => if (tg r.2 r.1).1 = t then some (vl r.2 r.1 k, r.2) else none
def gN (t k : Nat) (a : Ev Nat) : Ev (Option Nat) := fun env M => (a env M).bind fun r => if (tg r.2 r.1).1 = t then some (vr r.2 r.1 k, r.2) else none
def gR (t k : Nat) (a : Ev Nat) : Ev Nat := fun env M => (a env M).bind fun r => if (tg r.2 r.1).1 = t then (match vr r.2 r.1 k with | some x => some (x, r.2) | none => none) else none
/-- an index that is in its row -/
def inb (i : Int32) (n : Nat) : Bool := decide (¬ (i < 0 ∨ n ≤ i.toNatClampNeg))
def aI (t : Nat) (a : Ev Nat) (i : Ev Int32) : Ev Int32 := fun env M => (a env M).bind fun r => (i env r.2).bind fun q => if (tg q.2 r.1).1 = t ∧ inb q.1 (tg q.2 r.1).2 = true then some (vi q.2 r.1 q.1.toNatClampNeg, q.2) else none
def aL (a : Ev Nat) (i : Ev Int32) : Ev Int64 := fun env M => (a env M).bind fun r => (i env r.2).bind fun q => if (tg q.2 r.1).1 = 21 ∧ inb q.1 (tg q.2 r.1).2 = true then some (vl q.2 r.1 q.1.toNatClampNeg, q.2) else none
def aR (a : Ev Nat) (i : Ev Int32) : Ev Nat := fun env M => (a env M).bind fun r => (i env r.2).bind fun q => if (tg q.2 r.1).1 = 24 ∧ inb q.1 (tg q.2 r.1).2 = true then (match vr q.2 r.1 q.1.toNatClampNeg with | some x => some (x, q.2) | none => none) else none
def aLen (a : Ev Nat) : Ev Int32 := fun env M => (a env M).bind fun r => if 20 ≤ (tg r.2 r.1).1 then some (Int32.ofNat (tg r.2 r.1).2, r.2) else none
def tern {α : Type} (c : Ev Bool) (a b : Ev α) : Ev α := fun env M => (c env M).bind fun r => if r.1 = true then a env r.2 else b env r.2
def b2i (b : Bool) : Int32 := if b = true then 1 else 0
def i2z (x : Int32) : Bool := decide (x ≠ 0)
def eZ (c : Ev Bool) : Ev Int32 := b1 b2i c
def iEq (x y : Int32) : Bool := decide (x = y)
def iNe (x y : Int32) : Bool := decide (x ≠ y)
def iLt (x y : Int32) : Bool := decide (x < y)
def iLe (x y : Int32) : Bool := decide (x ≤ y)
def iGt (x y : Int32) : Bool := decide (y < x)
def iGe (x y : Int32) : Bool := decide (y ≤ x)
def lEq (x y : Int64) : Bool := decide (x = y)
def lNe (x y : Int64) : Bool := decide (x ≠ y)
def lLt (x y : Int64) : Bool := decide (x < y)
def lLe (x y : Int64) : Bool := decide (x ≤ y)
def lGt (x y : Int64) : Bool := decide (y < x)
def lGe (x y : Int64) : Bool := decide (y ≤ x)
def cAnd (a b : Ev Bool) : Ev Bool := fun env M => (a env M).bind fun r => if r.1 = true then b env r.2 else some (false, r.2)
def cOr (a b : Ev Bool) : Ev Bool := fun env M => (a env M).bind fun r => if r.1 = true then some (true, r.2) else b env r.2
def cNot (a : Ev Bool) : Ev Bool := b1 (fun b => !b) a
def shlI (x y : Int32) : Int32 := x <<< (y &&& 31)
def shrI (x y : Int32) : Int32 := x >>> (y &&& 31)
def remI (x y : Int32) : Int32 := x - x / y * y
/-- arguments, the first one deepest -/
def vN : Ev (List Value) := fun _ M => some ([], M)
def vI (a : Ev (List Value)) (e : Ev Int32) : Ev (List Value) := b2 (fun l x => l ++ [Value.int x]) a e
def vJ (a : Ev (List Value)) (e : Ev Int64) : Ev (List Value) := b2 (fun l x => l ++ [Value.long x]) a e
def vA (a : Ev (List Value)) (e : Ev Nat) : Ev (List Value) := b2 (fun l x => l ++ [Value.ref x]) a e
/-- calls -/
def cI (F : Fn) (a : Ev (List Value)) : Ev Int32 := fun env M => (a env M).bind fun r => match F r.1 r.2 with | some (some (.int x), M') => some (x, M') | _ => none
def cL (F : Fn) (a : Ev (List Value)) : Ev Int64 := fun env M => (a env M).bind fun r => match F r.1 r.2 with | some (some (.long x), M') => some (x, M') | _ => none
def cV (F : Fn) (a : Ev (List Value)) : Ev Unit := fun env M => (a env M).bind fun r => match F r.1 r.2 with | some (none, M') => some ((), M') | _ => none
/-- new: an object of tag t with n fields, its constructor F (arguments behind the object); a row of n -/
def nO (t n : Nat) (F : Fn) : Ev Nat := fun _ M => match F [.ref (mN M)] (mk1 M t n) with | some (none, M') => some (mN M, M') | _ => none
def nA (t : Nat) (e : Ev Int32) : Ev Nat := fun env M => (e env M).bind fun r => if r.1 < 0 ∨ 65536 < r.1.toNatClampNeg then none else some (mN r.2, mk1 r.2 t r.1.toNatClampNeg)
/-- statements: .inl 0 on, .inl 1 break, .inl 2 continue, .inr v returned -/
abbrev Re : Type := Nat ⊕ Option Value
abbrev Sv : Type := qE → qM → Option (Re × qE × qM)
def sto (env : qE) (i : Nat) (v : Value) : qE := if i < env.length then env.set i v else env ++ List.replicate (i - env.length) .null ++ [v]
def isL (v : Option Value) : Bool := match v with | some (.long _) => true | some (.double _) => true | _ => false
def sSkip : Sv := fun env M => some (.inl 0, env, M)
def sBrk : Sv := fun env M => some (.inl 1, env, M)
def sCnt : Sv := fun env M => some (.inl 2, env, M)
def sSeq (a b : Sv) : Sv := fun env M => (a env M).bind fun r => match r.1 with | .inl 0 => b r.2.1 r.2.2 | _ => some r
def sIf (c : Ev Bool) (a b : Sv) : Sv := fun env M => (c env M).bind fun r => if r.1 = true then a env r.2 else b env r.2
def sSet1 {α : Type} (mk : α → Value) (i : Nat) (e : Ev α) : Sv := fun env M => (e env M).bind fun r => if 0 < i ∧ isL env[i - 1]? = true then none else some (.inl 0, sto env i (mk r.1), r.2)
def sSetI (i : Nat) (e : Ev Int32) : Sv := sSet1 Value.int i e
def sSetR (i : Nat) (e : Ev Nat) : Sv := sSet1 Value.ref i e
def sSetL (i : Nat) (e : Ev Int64) : Sv := fun env M => (e env M).bind fun r => if 0 < i ∧ isL env[i - 1]? = true then none else some (.inl 0, sto (sto env i (.long r.1)) (i + 1) .null, r.2)
def sInc (i : Nat) (n : Int) : Sv := fun env M => match env[i]? with | some (.int x) => some (.inl 0, env.set i (.int (x + Int32.ofInt n)), M) | _ => none
def okZ (x : Int32) : Bool := decide (x = 0 ∨ x = 1)
def sPutI (t k : Nat) (o : Ev Nat) (e : Ev Int32) : Sv := fun env M => (o env M).bind fun r => (e env r.2).bind fun q => if (tg q.2 r.1).1 = t then some (.inl 0, env, pI q.2 r.1 k q.1) else none
def sPutZ (t k : Nat) (o : Ev Nat) (e : Ev Int32) : Sv := fun env M => (o env M).bind fun r => (e env r.2).bind fun q => if (tg q.2 r.1).1 = t ∧ okZ q.1 = true then some (.inl 0, env, pI q.2 r.1 k q.1) else none
def sPutL (t k : Nat) (o : Ev Nat) (e : Ev Int64) : Sv := fun env M => (o env M).bind fun r => (e env r.2).bind fun q => if (tg q.2 r.1).1 = t then some (.inl 0, env, pL q.2 r.1 k q.1) else none
def sPutR (t k : Nat) (o : Ev Nat) (e : Ev Nat) : Sv := fun env M => (o env M).bind fun r => (e env r.2).bind fun q => if (tg q.2 r.1).1 = t then some (.inl 0, env, pR q.2 r.1 k (some q.1)) else none
/-- o.f = g (o.f) e -/
def sUpI (t k : Nat) (o : Ev Nat) (g : Int32 → Int32 → Int32) (e : Ev Int32) : Sv := fun env M => (o env M).bind fun r => if (tg r.2 r.1).1 = t then (e env r.2).bind (fun q => if (tg q.2 r.1).1 = t then some (.inl 0, env, pI q.2 r.1 k (g (vi r.2 r.1 k) q.1)) else none) else none
/-- what an array of this tag keeps of an int -/
def nar (t : Nat) (x : Int32) : Int32 := if t = 22 then x.toInt8.toInt32 else if t = 23 then x &&& 1 else x
def sAI (t : Nat) (a : Ev Nat) (i e : Ev Int32) : Sv := fun env M => (a env M).bind fun r => (i env r.2).bind fun q => (e env q.2).bind fun z => if (tg z.2 r.1).1 = t ∧ inb q.1 (tg z.2 r.1).2 = true then some (.inl 0, env, pI z.2 r.1 q.1.toNatClampNeg (nar t z.1)) else none
def sAL (a : Ev Nat) (i : Ev Int32) (e : Ev Int64) : Sv := fun env M => (a env M).bind fun r => (i env r.2).bind fun q => (e env q.2).bind fun z => if (tg z.2 r.1).1 = 21 ∧ inb q.1 (tg z.2 r.1).2 = true then some (.inl 0, env, pL z.2 r.1 q.1.toNatClampNeg z.1) else none
def sAR (a : Ev Nat) (i : Ev Int32) (e : Ev Nat) : Sv := fun env M => (a env M).bind fun r => (i env r.2).bind fun q => (e env q.2).bind fun z => if (tg z.2 r.1).1 = 24 ∧ inb q.1 (tg z.2 r.1).2 = true ∧ (tg z.2 z.1).1 = 4 then some (.inl 0, env, pR z.2 r.1 q.1.toNatClampNeg (some z.1)) else none
/-- a[i] = g (a[i]) e, of an int row -/
def sUA (a : Ev Nat) (i : Ev Int32) (g : Int32 → Int32 → Int32) (e : Ev Int32) : Sv := fun env M => (a env M).bind fun r => (i env r.2).bind fun q => if (tg q.2 r.1).1 = 20 ∧ inb q.1 (tg q.2 r.1).2 = true then (e env q.2).bind (fun z => if (tg z.2 r.1).1 = 20 ∧ inb q.1 (tg z.2 r.1).2 = true then some (.inl 0, env, pI z.2 r.1 q.1.toNatClampNeg (g (vi q.2 r.1 q.1.toNatClampNeg) z.1)) else none) else none
def sExp {α : Type} (e : Ev α) : Sv := fun env M => (e env M).bind fun r => some (.inl 0, env, r.2)
def sRet {α : Type} (mk : α → Value) (e : Ev α) : Sv := fun env M => (e env M).bind fun r => some (.inr (some (mk r.1)), env, r.2)
def sRetI (e : Ev Int32) : Sv := sRet Value.int e
def sRetL (e : Ev Int64) : Sv := sRet Value.long e
def sRetZ (e : Ev Int32) : Sv := fun env M => (e env M).bind fun r => if okZ r.1 = true then some (.inr (some (.int r.1)), env, r.2) else none
def sRetV : Sv := fun env M => some (.inr none, env, M)
def sScope (n : Nat) (b : Sv) : Sv := fun env M => (b env M).bind fun r => some (r.1, r.2.1.take n, r.2.2)
/-- iterate a step till it says .inr -/
def iter {σ ρ : Type} (st : σ → Option (σ ⊕ ρ)) : Nat → σ → Option ρ
  | 0, _ => none
  | n + 1, s => match st s with | none => none | some (.inr r) => some r | some (.inl s') => iter st n s'
theorem iter_more {σ ρ : Type} {st : σ → Option (σ ⊕ ρ)} : ∀ (n m : Nat) (s : σ) (r : ρ), iter st n s = some r → n ≤ m → iter st m s = some r
  | 0, _, _, _, h, _ => by simp [iter] at h
  | n + 1, 0, _, _, _, hm => by omega
  | n + 1, m + 1, s, r, h, hm => by
    simp only [iter] at h ⊢
    cases hs : st s with
    | none => simp [hs] at h
    | some x =>
      cases x with
      | inr y => simpa [hs] using h
      | inl y =>
        simp only [hs] at h ⊢
        exact iter_more n m y r h (by omega)
theorem iter_det {σ ρ : Type} {st : σ → Option (σ ⊕ ρ)} {n m : Nat} {s : σ} {r q : ρ} (h1 : iter st n s = some r) (h2 : iter st m s = some q) : r = q := by
  have a := iter_more n (max n m) s r h1 (by omega)
  have b := iter_more m (max n m) s q h2 (by omega)
  exact Option.some.inj (a.symm.trans b)
noncomputable def loopR {σ ρ : Type} (st : σ → Option (σ ⊕ ρ)) (s : σ) : Option ρ :=
  @dite (Option ρ) (∃ (n : Nat) (r : ρ), iter st n s = some r) (Classical.propDecidable _) (fun h => some (Classical.choose (Classical.choose_spec h))) (fun _ => none)
theorem loopR_iff {σ ρ : Type} {st : σ → Option (σ ⊕ ρ)} {s : σ} {r : ρ} : loopR st s = some r ↔ ∃ n, iter st n s = some r := by
  unfold loopR
  split
  · rename_i h
    have hs := Classical.choose_spec (Classical.choose_spec h)
    constructor
    · intro e
      have e := Option.some.inj e
      exact ⟨_, e ▸ hs⟩
    · rintro ⟨n, hn⟩
      rw [iter_det hs hn]
  · rename_i h
    constructor
    · intro e; cases e
    · rintro ⟨n, hn⟩
      exact absurd ⟨n, r, hn⟩ h
theorem loopR_eq {σ ρ : Type} (st : σ → Option (σ ⊕ ρ)) (s : σ) : loopR st s = match st s with | none => none | some (.inr r) => some r | some (.inl s') => loopR st s' := by
  cases hs : st s with
  | none =>
    cases hl : loopR st s with
    | none => rfl
    | some r =>
      obtain ⟨n, hn⟩ := loopR_iff.mp hl
      cases n with
      | zero => simp [iter] at hn
      | succ n => simp [iter, hs] at hn
  | some x =>
    cases x with
    | inr r => exact loopR_iff.mpr ⟨1, by simp [iter, hs]⟩
    | inl s' =>
      show loopR st s = loopR st s'
      cases hl : loopR st s' with
      | some r =>
        obtain ⟨n, hn⟩ := loopR_iff.mp hl
        exact loopR_iff.mpr ⟨n + 1, by simp [iter, hs, hn]⟩
      | none =>
        cases hl2 : loopR st s with
        | none => rfl
        | some r =>
          obtain ⟨n, hn⟩ := loopR_iff.mp hl2
          cases n with
          | zero => simp [iter] at hn
          | succ n =>
            simp only [iter, hs] at hn
            rw [loopR_iff.mpr ⟨n, hn⟩] at hl
            cases hl
/-- one turn of a loop: the condition, the body, the update -/
def lStep (c : Ev Bool) (b u : Sv) : qE × qM → Option ((qE × qM) ⊕ (Re × qE × qM)) := fun s =>
  (c s.1 s.2).bind fun r => if r.1 = true then
    (b s.1 r.2).bind fun q => match q.1 with
      | .inl 0 => (u q.2.1 q.2.2).bind fun z => match z.1 with | .inl 0 => some (.inl z.2) | _ => none
      | .inl 2 => (u q.2.1 q.2.2).bind fun z => match z.1 with | .inl 0 => some (.inl z.2) | _ => none
      | .inl 1 => some (.inr (.inl 0, q.2))
      | .inr v => some (.inr (.inr v, q.2))
      | _ => none
  else some (.inr (.inl 0, s.1, r.2))
noncomputable def sLoop (c : Ev Bool) (b u : Sv) : Sv := fun env M => loopR (lStep c b u) (env, M)
/-- a table of statements by a number; break leaves it -/
def unBrk (a : Sv) : Sv := fun env M => (a env M).bind fun r => match r.1 with | .inl 1 => some (.inl 0, r.2) | _ => some r
def sSw (e : Ev Int32) (lo : Int) (bs : List Sv) (d : Sv) : Sv := fun env M => (e env M).bind fun r => (if r.1.toInt < lo then d else (bs[(r.1.toInt - lo).toNat]?).getD d) env r.2
/-- a method out of its body: its arguments as locals -/
def argE (vs : List Value) : qE := vs.flatMap fun v => if v.category = 2 then [v, .null] else [v]
def fnOf (n : Nat) (b : Sv) : Fn := fun args M => if (argE args).length = n then (match b (argE args) M with | some (.inr v, _, M') => some (v, M') | _ => none) else none
