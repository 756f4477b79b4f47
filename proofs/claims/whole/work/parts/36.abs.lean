/-! WHAT CALLS ANSWER, abstractly: (answer, trouble) of a plan and a loom -/
theorem k_0 : n32 0 = 0 := rfl
theorem k_1 : n32 1 = 1 := rfl
theorem k_2 : n32 2 = 2 := rfl
theorem k_3 : n32 3 = 3 := rfl
theorem k_4 : n32 4 = 4 := rfl
theorem k_5 : n32 5 = 5 := rfl
theorem k_6 : n32 6 = 6 := rfl
abbrev Rs : Type := Int32 × Nat
def refu (t : Nat) : Rs := (-1, t)
def ansr (v : Int32) : Rs := (v, 0)
theorem findN_lt {n k : Nat} {f : Nat → Bool} (h : findN n f = some k) : k < n := by
  unfold findN at h
  have := List.mem_of_find?_eq_some h
  simpa using this
theorem findN_true {n k : Nat} {f : Nat → Bool} (h : findN n f = some k) : f k = true := by
  unfold findN at h
  exact List.find?_some h
/-- an int as a number below n, where b -/
def inO (b : Bool) (n : Nat) (x : Int32) : Option Nat := if b = true ∧ 0 ≤ x ∧ x < n32 n then some x.toNatClampNeg else none
theorem inO_some {b : Bool} {n k : Nat} {x : Int32} (hn : n < 2147483648) (h : inO b n x = some k) : b = true ∧ k < n ∧ x = n32 k := by
  unfold inO at h
  split at h
  · rename_i e
    cases h
    have ex := n32_of e.2.1
    refine ⟨e.1, ?_, ex⟩
    have := e.2.2
    rw [ex, n32_lt (clamp_lt x) hn] at this
    exact this
  · cases h
theorem inO_none {b : Bool} {n : Nat} {x : Int32} (h : inO b n x = none) : ¬ (b = true ∧ 0 ≤ x ∧ x < n32 n) := by
  unfold inO at h
  split at h
  · cases h
  · assumption
theorem inO_n {n k : Nat} (hn : n < 2147483648) (hk : k < n) : inO true n (n32 k) = some k := by
  unfold inO
  have := (rng (x := n32 k) hn).mpr ⟨k, hk, rfl⟩
  rw [if_pos ⟨rfl, this⟩, n32_clamp (by omega)]
theorem inO_isSome (b : Bool) (n : Nat) (x : Int32) : (inO b n x).isSome = (b && (zGe x && iLt x (n32 n))) := by
  unfold inO
  cases b
  · simp
  · unfold zGe iLt
    by_cases h1 : 0 ≤ x <;> by_cases h2 : x < n32 n <;> simp [h1, h2]
theorem side_iff (x : Int32) : (zEq x || iEq x (n32 1)) = (zGe x && iLt x (n32 2)) := by
  rw [Bool.eq_iff_iff]
  simp only [Bool.or_eq_true, Bool.and_eq_true, zEq, iEq, zGe, iLt, decide_eq_true_eq]
  rw [rng (by decide)]
  constructor
  · rintro (h | h)
    · exact ⟨0, by decide, h⟩
    · exact ⟨1, by decide, h⟩
  · rintro ⟨k, hk, h⟩
    match k, hk with
    | 0, _ => exact Or.inl h
    | 1, _ => exact Or.inr h
theorem sw_sel (x : Int32) (bs : List Sv) (d : Sv) (hn : bs.length < 2147483648) : (if x.toInt < 0 then d else (bs[(x.toInt - 0).toNat]?).getD d) = (match inO true bs.length x with | some k => (bs[k]?).getD d | none => d) := by
  cases e : inO true bs.length x with
  | some k =>
    obtain ⟨-, hk, rfl⟩ := inO_some hn e
    rw [n32_toInt (by omega), if_neg (by omega)]
    simp
  | none =>
    have h := inO_none e
    by_cases h0 : x.toInt < 0
    · rw [if_pos h0]
    · rw [if_neg h0]
      have h1 : 0 ≤ x := by rw [Int32.le_iff_toInt_le]; simpa using h0
      have h2 : ¬ x < n32 bs.length := fun z => h ⟨rfl, h1, z⟩
      rw [Int32.lt_iff_toInt_lt, n32_toInt hn] at h2
      have : bs.length ≤ (x.toInt - 0).toNat := by omega
      rw [List.getElem?_eq_none this]
      rfl
/-- a set of rows as bits -/
def bitsI (S : Nat → Bool) : Int32 := (List.range 8).foldl (fun x i => if S i = true then x ||| shlI 1 (n32 i) else x) 0
theorem bt_bitsI (S : Nat → Bool) (i : Nat) : bt (bitsI S) i = (decide (i < 8) && S i) := by
  have key : ∀ n, n ≤ 8 → bt ((List.range n).foldl (fun x i => if S i = true then x ||| shlI 1 (n32 i) else x) 0) i = (decide (i < n) && S i) := by
    intro n
    induction n with
    | zero => intro _; simp [bt_zero]
    | succ n ih =>
      intro hn
      rw [List.range_succ, List.foldl_append]
      simp only [List.foldl_cons, List.foldl_nil]
      by_cases hS : S n = true
      · rw [if_pos hS, bt_or, ih (by omega), bt_shl (by omega)]
        by_cases e : i = n
        · subst e; simp [hS]
        · by_cases e1 : i < n
          · simp [e1, show i < n + 1 by omega, e]
          · simp [e1, show ¬ i < n + 1 by omega, e]
      · rw [if_neg hS, ih (by omega)]
        by_cases e : i = n
        · subst e; simp [hS]
        · by_cases e1 : i < n
          · simp [e1, show i < n + 1 by omega]
          · simp [e1, show ¬ i < n + 1 by omega]
  exact key 8 (Nat.le_refl 8)
theorem bitsI_eq {S : Nat → Bool} {x : Int32} (h : ∀ i, bt x i = (decide (i < 8) && S i)) : x = bitsI S := bt_ext fun i _ => by rw [h, bt_bitsI]
/-- the abstract state: told, plan, loom, acts, marks, the tape's length, the tape, trouble, fault, its place -/
abbrev Ab : Type := Bool × Pl × Lo × List Lo × List Lo × Nat × (Nat → Int32) × Nat × Nat × Nat
def aTd (A : Ab) : Bool := A.1
def aPn (A : Ab) : Pl := A.2.1
def aLm (A : Ab) : Lo := A.2.2.1
def aAc (A : Ab) : List Lo := A.2.2.2.1
def aMk (A : Ab) : List Lo := A.2.2.2.2.1
def aTl (A : Ab) : Nat := A.2.2.2.2.2.1
def aTp (A : Ab) : Nat → Int32 := A.2.2.2.2.2.2.1
def aTr (A : Ab) : Nat := A.2.2.2.2.2.2.2.1
def aFt (A : Ab) : Nat := A.2.2.2.2.2.2.2.2.1
def aPc (A : Ab) : Nat := A.2.2.2.2.2.2.2.2.2
def setTr (A : Ab) (t : Nat) : Ab := (A.1, A.2.1, A.2.2.1, A.2.2.2.1, A.2.2.2.2.1, A.2.2.2.2.2.1, A.2.2.2.2.2.2.1, t, A.2.2.2.2.2.2.2.2)
def setLo (A : Ab) (lo : Lo) : Ab := (A.1, A.2.1, lo, A.2.2.2)
def setAc (A : Ab) (l : List Lo) : Ab := (A.1, A.2.1, A.2.2.1, l, A.2.2.2.2)
def setMk (A : Ab) (l : List Lo) : Ab := (A.1, A.2.1, A.2.2.1, A.2.2.2.1, l, A.2.2.2.2.2)
def rs_row (b : Bool) (p : Pl) (r w : Int32) : Rs := match inO b (pK p) r, inO true 4 w with
  | some k, some 0 => ansr (n32 (pCol p k))
  | some k, some 1 => ansr (n32 (pTk p k))
  | some k, some 2 => ansr (b2i (pSm p k))
  | some k, some _ => ansr (n32 (pPar p k))
  | _, _ => refu 1
def rs_next (b : Bool) (p : Pl) (r q : Int32) : Rs := match inO b (pK p) r, inO b (pK p) q with
  | some k, some l => ansr (b2i (pNx p k l))
  | _, _ => refu 1
def rs_instead (b : Bool) (p : Pl) (r q : Int32) : Rs := match inO b (pK p) r, inO b (pK p) q with
  | some k, some l => if k = l then refu 1 else ansr (b2i (insteadB p k l))
  | _, _ => refu 1
def spB (p : Pl) (k o : Nat) : Bool := decide (pCol p o ≠ pCol p k) && insteadB p o k
def rs_spare (b : Bool) (p : Pl) (r : Int32) : Rs := match inO b (pK p) r with
  | some k => (match findN (pK p) (spB p k) with
    | some o => ansr (n32 o)
    | none => ansr (-2))
  | none => refu 1
def rs_rows (b : Bool) (lo : Lo) (s : Int32) : Rs := match inO b 2 s with
  | some k => ansr (n32 (lC lo k))
  | none => refu 1
def rs_at (b : Bool) (lo : Lo) (s i : Int32) : Rs := match inO b 2 s with
  | some k => (match inO true (lC lo k) i with
    | some j => ansr (n32 (lR lo k j))
    | none => refu 1)
  | none => refu 1
def inCl (p : Pl) (lo : Lo) (s c : Nat) : Nat := sumN (lC lo s) fun i => if pCol p (lR lo s i) = c then pTk p (lR lo s i) else 0
def rs_colour (b : Bool) (p : Pl) (lo : Lo) (s c w : Int32) : Rs := match inO b 2 s, inO b (pCs p) c, inO true 3 w with
  | some k, some d, some 0 => ansr (n32 (lS lo k d))
  | some k, some d, some 1 => ansr (n32 (inCl p lo k d))
  | some k, some d, some _ => ansr (n32 (lW lo k d))
  | _, _, _ => refu 1
def unitsN (p : Pl) (a c : Nat) : Nat := a * pH p 0 + c * pH p 1
def rs_units (b : Bool) (p : Pl) (lo : Lo) : Rs := if b = true then ansr (n32 (unitsN p (lC lo 0) (lC lo 1))) else refu 1
def rs_may (b : Bool) (p : Pl) (lo : Lo) (s : Int32) : Rs := match inO b 2 s with
  | some k => ansr (bitsI (canW p lo k))
  | none => refu 1
def rs_meets (b : Bool) (p : Pl) (lo : Lo) : Rs := if b = true then ansr (b2i (meetsB p lo)) else refu 1
def rs_third (b : Bool) (p : Pl) (lo : Lo) : Rs := if b = true then (match lastO lo 0 0, lastO lo 1 0 with
  | some l, some r => ansr (bitsI fun q => pNx p l q && pNx p q r)
  | _, _ => refu 6) else refu 1
def rs_answered (b : Bool) (p : Pl) (lo : Lo) (i : Int32) : Rs := match inO b 24 i with
  | some k => if k < both lo then ansr (b2i (ansAt p lo k)) else refu 6
  | none => refu 1
def rs_wrongs (b : Bool) (p : Pl) (lo : Lo) : Rs := if b = true then ansr (n32 (sumN (both lo) fun i => if ansAt p lo i = true then 0 else 1)) else refu 1
def fwr (p : Pl) (lo : Lo) : Option Nat := findN (both lo) fun i => !ansAt p lo i
def rs_mend (b : Bool) (p : Pl) (lo : Lo) : Rs := if b = true then (match fwr p lo with
  | some k => ansr (n32 (both lo - k))
  | none => ansr 0) else refu 1
def rs_mendBy (b : Bool) (p : Pl) (lo : Lo) : Rs := if b = true then (match fwr p lo with
  | some _ => ansr (n32 (if lC lo 0 ≤ lC lo 1 then 0 else 1))
  | none => ansr (-2)) else refu 1
def rs_seen (b : Bool) (p : Pl) (lo : Lo) (m s : Int32) : Rs := match inO b (pMs p) m, inO b 2 s with
  | some k, some d => ansr (n32 (sumN (lC lo d) fun i => if motifB p lo k d i = true then 1 else 0))
  | _, _ => refu 1
def rs_seenAt (b : Bool) (p : Pl) (lo : Lo) (m s : Int32) : Rs := match inO b (pMs p) m, inO b 2 s with
  | some k, some d => (match findN (lC lo d) (fun i => motifB p lo k d i) with
    | some i => ansr (n32 i)
    | none => ansr (-2))
  | _, _ => refu 1
