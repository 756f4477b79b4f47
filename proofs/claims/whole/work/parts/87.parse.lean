/-! THE PARSER, abstractly: .inl (fault, place) or what comes of it -/
abbrev Pr (α : Type) : Type := (Nat × Nat) ⊕ α
def pB {α β : Type} (x : Pr α) (f : α → Pr β) : Pr β := match x with
  | .inl e => .inl e
  | .inr a => f a
theorem pB_l {α β : Type} (e : Nat × Nat) (f : α → Pr β) : pB (.inl e) f = .inl e := rfl
theorem pB_r {α β : Type} (a : α) (f : α → Pr β) : pB (.inr a) f = f a := rfl
abbrev Nm : Type := List (List Nat × Nat × Nat)
abbrev Fl : Type := Nat → Nat → Bool
abbrev Rd : Type := Pl × Lo × Nm × Fl
def nmW (nm : Nm) (i : Nat) : List Nat := (nm.getD i ([], 0, 0)).1
def nmS (nm : Nm) (i : Nat) : Nat := (nm.getD i ([], 0, 0)).2.1
def nmK (nm : Nm) (i : Nat) : Nat := (nm.getD i ([], 0, 0)).2.2
def ixN (nm : Nm) (w : List Nat) : Option Nat := findN nm.length fun i => decide (nmW nm i = w)
theorem findN_iff {n j : Nat} {f : Nat → Bool} : findN n f = some j ↔ j < n ∧ f j = true ∧ ∀ i, i < j → f i = false := by
  unfold findN
  rw [List.find?_range_eq_some]
  simp only [List.mem_range, Bool.not_eq_true']
  exact ⟨fun h => ⟨h.2.1, h.1, h.2.2⟩, fun h => ⟨h.2.1, h.1, h.2.2⟩⟩
theorem findN_niff {n : Nat} {f : Nat → Bool} : findN n f = none ↔ ∀ i, i < n → f i = false := by
  unfold findN
  rw [List.find?_range_eq_none]
  simp only [Bool.not_eq_true', Bool.not_eq_true]
theorem nm_app (nm : Nm) (x : List Nat × Nat × Nat) {i : Nat} (h : i < nm.length) : (nm ++ [x]).getD i ([], 0, 0) = nm.getD i ([], 0, 0) := by
  rw [List.getD_eq_getElem?_getD, List.getD_eq_getElem?_getD, List.getElem?_append_left h]
theorem nm_end (nm : Nm) (x : List Nat × Nat × Nat) : (nm ++ [x]).getD nm.length ([], 0, 0) = x := by
  rw [List.getD_eq_getElem?_getD, List.getElem?_append_right (Nat.le_refl _)]
  simp
def isW (tp : Nat → Int32) (n q i : Nat) : Bool := decide (tkK tp n q = 1) && decide (tkW tp n q = strW i)
def isNm (tp : Nat → Int32) (n q : Nat) : Bool := decide (tkK tp n q = 1) && !anyB 12 (fun i => decide (tkW tp n q = strW i))
def pW (tp : Nat → Int32) (n i q : Nat) : Pr Nat := if isW tp n q i = true then .inr (tkE tp n q) else .inl (1, tkP tp n q)
def pWh (tp : Nat → Int32) (n a b q : Nat) : Pr (Nat × Nat) := if tkK tp n q = 2 then (if a ≤ tkV tp n q ∧ tkV tp n q ≤ b then .inr (tkV tp n q, tkE tp n q) else .inl (4, tkP tp n q)) else .inl (1, tkP tp n q)
def pF (tp : Nat → Int32) (n : Nat) (nm : Nm) (q : Nat) : Pr Nat := if isNm tp n q = true then (if (ixN nm (tkW tp n q)).isSome = true then .inl (3, tkP tp n q) else .inr (tkE tp n q)) else .inl (1, tkP tp n q)
def lkS (nm : Nm) (w : List Nat) (s : Nat) : Option Nat := match ixN nm w with
  | some i => if nmS nm i = s then some (nmK nm i) else none
  | none => none
def pKn (tp : Nat → Int32) (n : Nat) (nm : Nm) (s q : Nat) : Pr Nat := if isNm tp n q = true then (match lkS nm (tkW tp n q) s with | some k => .inr k | none => .inl (2, tkP tp n q)) else .inl (1, tkP tp n q)
theorem lkS_app (nm : Nm) (x : List Nat × Nat × Nat) (w : List Nat) {s : Nat} (h : x.2.1 ≠ s) : lkS (nm ++ [x]) w s = lkS nm w s := by
  unfold lkS
  have ew : ∀ i, i < nm.length → nmW (nm ++ [x]) i = nmW nm i := fun i hi => by unfold nmW; rw [nm_app nm x hi]
  have es : ∀ i, i < nm.length → nmS (nm ++ [x]) i = nmS nm i := fun i hi => by unfold nmS; rw [nm_app nm x hi]
  have ek : ∀ i, i < nm.length → nmK (nm ++ [x]) i = nmK nm i := fun i hi => by unfold nmK; rw [nm_app nm x hi]
  cases e : ixN nm w with
  | some i =>
    obtain ⟨h1, h2, h3⟩ := findN_iff.mp e
    have : ixN (nm ++ [x]) w = some i := findN_iff.mpr ⟨by simp; omega, by rw [ew i h1]; exact h2, fun j hj => by rw [ew j (by omega)]; exact h3 j hj⟩
    rw [this]
    show (if nmS (nm ++ [x]) i = s then some (nmK (nm ++ [x]) i) else none) = _
    rw [es i h1, ek i h1]
  | none =>
    have h0 := findN_niff.mp e
    cases e' : ixN (nm ++ [x]) w with
    | none => rfl
    | some i =>
      obtain ⟨h1, h2, h3⟩ := findN_iff.mp e'
      have hi : i = nm.length := by
        by_cases hl : i < nm.length
        · rw [ew i hl, h0 i hl] at h2; cases h2
        · simp at h1; omega
      subst hi
      show (if nmS (nm ++ [x]) nm.length = s then _ else none) = none
      rw [if_neg]
      unfold nmS
      rw [nm_end]
      exact h
/-- what is told stays within bounds -/
def RdOK (p : Pl) (lo : Lo) (nm : Nm) (fl : Fl) : Prop := (PlOK p) ∧ (LoOK (pK p) lo) ∧ (nm.length = pCs p + pK p + pMs p) ∧ (∀ i, i < nm.length → nmS nm i = 0 → nmK nm i < pCs p) ∧ (∀ i, i < nm.length → nmS nm i = 1 → nmK nm i < pK p) ∧ (∀ r, fl 2 r = false → ∀ x, pNx p r x = false) ∧ (∀ s, s < 2 → fl 1 s = false → lC lo s = 0) ∧ (∀ s, s < 2 → lC lo s ≤ 12)
theorem RdOK.O {p : Pl} {lo : Lo} {nm : Nm} {fl : Fl} (h : RdOK p lo nm fl) : PlOK p := h.1
theorem RdOK.L {p : Pl} {lo : Lo} {nm : Nm} {fl : Fl} (h : RdOK p lo nm fl) : LoOK (pK p) lo := h.2.1
theorem RdOK.len {p : Pl} {lo : Lo} {nm : Nm} {fl : Fl} (h : RdOK p lo nm fl) : nm.length = pCs p + pK p + pMs p := h.2.2.1
theorem RdOK.nc {p : Pl} {lo : Lo} {nm : Nm} {fl : Fl} (h : RdOK p lo nm fl) : ∀ i, i < nm.length → nmS nm i = 0 → nmK nm i < pCs p := h.2.2.2.1
theorem RdOK.nr {p : Pl} {lo : Lo} {nm : Nm} {fl : Fl} (h : RdOK p lo nm fl) : ∀ i, i < nm.length → nmS nm i = 1 → nmK nm i < pK p := h.2.2.2.2.1
theorem RdOK.nx {p : Pl} {lo : Lo} {nm : Nm} {fl : Fl} (h : RdOK p lo nm fl) : ∀ r, fl 2 r = false → ∀ x, pNx p r x = false := h.2.2.2.2.2.1
theorem RdOK.sd {p : Pl} {lo : Lo} {nm : Nm} {fl : Fl} (h : RdOK p lo nm fl) : ∀ s, s < 2 → fl 1 s = false → lC lo s = 0 := h.2.2.2.2.2.2.1
theorem RdOK.s12 {p : Pl} {lo : Lo} {nm : Nm} {fl : Fl} (h : RdOK p lo nm fl) : ∀ s, s < 2 → lC lo s ≤ 12 := h.2.2.2.2.2.2.2
theorem lkS_col {p : Pl} {lo : Lo} {nm : Nm} {fl : Fl} (h : RdOK p lo nm fl) {w : List Nat} {k : Nat} (e : lkS nm w 0 = some k) : k < pCs p := by
  unfold lkS at e
  cases e1 : ixN nm w with
  | none => rw [e1] at e; cases e
  | some i =>
    rw [e1] at e
    have e : (if nmS nm i = 0 then some (nmK nm i) else none) = some k := e
    split at e
    · rename_i hs
      cases e
      exact h.nc i (findN_iff.mp e1).1 hs
    · cases e
theorem lkS_row {p : Pl} {lo : Lo} {nm : Nm} {fl : Fl} (h : RdOK p lo nm fl) {w : List Nat} {k : Nat} (e : lkS nm w 1 = some k) : k < pK p := by
  unfold lkS at e
  cases e1 : ixN nm w with
  | none => rw [e1] at e; cases e
  | some i =>
    rw [e1] at e
    have e : (if nmS nm i = 1 then some (nmK nm i) else none) = some k := e
    split at e
    · rename_i hs
      cases e
      exact h.nr i (findN_iff.mp e1).1 hs
    · cases e
theorem pKn_row {tp : Nat → Int32} {n q : Nat} {p : Pl} {lo : Lo} {nm : Nm} {fl : Fl} (h : RdOK p lo nm fl) {k : Nat} (e : pKn tp n nm 1 q = .inr k) : k < pK p := by
  unfold pKn at e
  split at e
  · split at e
    · rename_i h2; cases e; exact lkS_row h h2
    · cases e
  · cases e
theorem pKn_col {tp : Nat → Int32} {n q : Nat} {p : Pl} {lo : Lo} {nm : Nm} {fl : Fl} (h : RdOK p lo nm fl) {k : Nat} (e : pKn tp n nm 0 q = .inr k) : k < pCs p := by
  unfold pKn at e
  split at e
  · split at e
    · rename_i h2; cases e; exact lkS_col h h2
    · cases e
  · cases e
theorem pKn_1 {tp : Nat → Int32} {n q : Nat} {nm : Nm} {s k : Nat} (e : pKn tp n nm s q = .inr k) : tkK tp n q = 1 := by
  unfold pKn at e
  split at e
  · rename_i h
    unfold isNm at h
    simp only [Bool.and_eq_true, decide_eq_true_eq] at h
    exact h.1
  · cases e
def setF (fl : Fl) (f k : Nat) : Fl := fun g j => if g = f ∧ j = k then true else fl g j
/-- lines -/
def plC (p : Pl) (a b c d e : Nat) : Pl := u2 (u2 (u2 (u2 (u2 p 0 0 a) 1 0 b) 3 0 c) 3 1 d) 2 0 e
def pPt (tp : Nat → Int32) (n i a b q : Nat) : Pr (Nat × Nat) := pB (pW tp n i q) fun q => pWh tp n a b q
def pCloth (tp : Nat → Int32) (n : Nat) (rd : Rd) (q : Nat) : Pr (Nat × Rd) := if rd.2.2.2 0 0 = true then .inl (3, tkP tp n q) else
  pB (pPt tp n 12 4 60 (tkE tp n q)) fun x1 => pB (pPt tp n 13 0 9 x1.2) fun x2 => pB (pPt tp n 5 1 9 x2.2) fun x3 => pB (pPt tp n 6 1 9 x3.2) fun x4 => pB (pPt tp n 14 1 5 x4.2) fun x5 =>
  .inr (x5.2, plC rd.1 x1.1 x2.1 x3.1 x4.1 x5.1, rd.2.1, rd.2.2.1, setF rd.2.2.2 0 0)
def loS (lo : Lo) (c a b : Nat) : Lo := (lo.1, lo.2.1, u2 (u2 lo.2.2.1 0 c a) 1 c b, lo.2.2.2)
def pColour (tp : Nat → Int32) (n : Nat) (rd : Rd) (q : Nat) : Pr (Nat × Rd) := if 2 ≤ pCs rd.1 then .inl (5, tkP tp n q) else
  pB (pF tp n rd.2.2.1 (tkE tp n q)) fun q1 => pB (pPt tp n 5 0 9 q1) fun x1 => pB (pPt tp n 6 0 9 x1.2) fun x2 =>
  .inr (x2.2, u2 rd.1 4 0 (pCs rd.1 + 1), loS rd.2.1 (pCs rd.1) x1.1 x2.1, rd.2.2.1 ++ [(tkW tp n (tkE tp n q), 0, pCs rd.1)], rd.2.2.2)
def plK (p : Pl) (c t : Nat) (s : Bool) : Pl := u2 (u2 (u2 (u2 (u2 p 6 (pK p) c) 7 (pK p) t) 8 (pK p) (pK p)) 9 (pK p) (if s = true then 1 else 0)) 5 0 (pK p + 1)
def pRow (tp : Nat → Int32) (n : Nat) (rd : Rd) (q : Nat) : Pr (Nat × Rd) := if 8 ≤ pK rd.1 then .inl (5, tkP tp n q) else
  pB (pF tp n rd.2.2.1 (tkE tp n q)) fun q1 => pB (pW tp n 15 q1) fun q2 => pB (pKn tp n rd.2.2.1 0 q2) fun c => pB (pWh tp n 0 3 (tkE tp n q2)) fun x =>
  .inr (if isW tp n x.2 9 = true then tkE tp n x.2 else x.2, plK rd.1 c x.1 (isW tp n x.2 9), rd.2.1, rd.2.2.1 ++ [(tkW tp n (tkE tp n q), 1, pK rd.1)], rd.2.2.2)
def plN (p : Pl) (l : Nat) (S : Nat → Bool) : Pl := fun f i => if f = 100 + l then (if S i = true then 1 else 0) else p f i
def addS (S : Nat → Bool) (x : Nat) : Nat → Bool := fun i => if i = x then true else S i
def pNextL (tp : Nat → Int32) (n : Nat) (nm : Nm) : Nat → (Nat → Bool) → Nat → Pr (Nat × (Nat → Bool))
  | 0, _, q => .inl (1, tkP tp n q)
  | k + 1, S, q => pB (pKn tp n nm 1 q) fun x => if S x = true then .inl (3, tkP tp n q) else if tkK tp n (tkE tp n q) = 4 then pNextL tp n nm k (addS S x) (tkE tp n (tkE tp n q)) else .inr (tkE tp n q, addS S x)
def pNext (tp : Nat → Int32) (n : Nat) (rd : Rd) (q : Nat) : Pr (Nat × Rd) := pB (pKn tp n rd.2.2.1 1 (tkE tp n q)) fun l => if rd.2.2.2 2 l = true then .inl (3, tkP tp n (tkE tp n q)) else
  pB (pW tp n 10 (tkE tp n (tkE tp n q))) fun q1 => pB (pNextL tp n rd.2.2.1 9 (fun _ => false) q1) fun x => .inr (x.1, plN rd.1 l x.2, rd.2.1, rd.2.2.1, setF rd.2.2.2 2 l)
def plA (p : Pl) (a b : Nat) : Pl := u2 (u2 p 8 a b) 8 b a
def pAnsw (tp : Nat → Int32) (n : Nat) (rd : Rd) (q : Nat) : Pr (Nat × Rd) := pB (pKn tp n rd.2.2.1 1 (tkE tp n q)) fun a => if rd.2.2.2 3 a = true then .inl (3, tkP tp n (tkE tp n q)) else
  pB (pKn tp n rd.2.2.1 1 (tkE tp n (tkE tp n q))) fun b => if rd.2.2.2 3 b = true then .inl (3, tkP tp n (tkE tp n (tkE tp n q))) else
  .inr (tkE tp n (tkE tp n (tkE tp n q)), plA rd.1 a b, rd.2.1, rd.2.2.1, setF (setF rd.2.2.2 3 a) 3 b)
def pSideL (tp : Nat → Int32) (n : Nat) (p : Pl) (nm : Nm) (s : Nat) : Nat → Nat → Lo → Nat → Pr (Nat × Lo)
  | 0, _, _, q => .inl (1, tkP tp n q)
  | k + 1, i, lo, q => pB (pKn tp n nm 1 q) fun x => if i = 12 then .inl (5, tkP tp n q) else if hind p lo s x = 0 then (if tkK tp n (tkE tp n q) = 4 then pSideL tp n p nm s k (i + 1) (lAdd p lo s x) (tkE tp n (tkE tp n q)) else .inr (tkE tp n q, lAdd p lo s x)) else .inl (7, tkP tp n q)
def pSide (tp : Nat → Int32) (n s : Nat) (rd : Rd) (q : Nat) : Pr (Nat × Rd) := if rd.2.2.2 1 s = true then .inl (3, tkP tp n q) else
  pB (pSideL tp n rd.1 rd.2.2.1 s 13 0 rd.2.1 (tkE tp n q)) fun x => .inr (x.1, rd.1, x.2, rd.2.2.1, setF rd.2.2.2 1 s)
def mkO (tp : Nat → Int32) (n q : Nat) : Option Nat := if isW tp n q 16 = true then some 0 else if isW tp n q 17 = true then some 1 else if isW tp n q 18 = true then some 2 else if isW tp n q 19 = true then some 3 else none
def pMotL (tp : Nat → Int32) (n : Nat) (nm : Nm) : Nat → Nat → (Nat → Nat) → Nat → Pr (Nat × Nat × (Nat → Nat))
  | 0, _, _, q => .inl (1, tkP tp n q)
  | k + 1, i, R, q => pB (pKn tp n nm 1 q) fun x => if i = 4 then .inl (5, tkP tp n q) else if tkK tp n (tkE tp n q) = 4 then pMotL tp n nm k (i + 1) (fun j => if j = i then x else R j) (tkE tp n (tkE tp n q)) else .inr (tkE tp n q, i + 1, fun j => if j = i then x else R j)
def plM (p : Pl) (k l : Nat) (R : Nat → Nat) : Pl := fun f i => if f = 15 then (if pMs p * 4 ≤ i ∧ i < pMs p * 4 + 4 then R (i - pMs p * 4) else p f i) else u2 (u2 (u2 p 13 (pMs p) k) 14 (pMs p) l) 12 0 (pMs p + 1) f i
def pMotif (tp : Nat → Int32) (n : Nat) (rd : Rd) (q : Nat) : Pr (Nat × Rd) := if 4 ≤ pMs rd.1 then .inl (5, tkP tp n q) else
  pB (pF tp n rd.2.2.1 (tkE tp n q)) fun q1 => match mkO tp n q1 with
    | none => .inl (1, tkP tp n q1)
    | some k => pB (pMotL tp n rd.2.2.1 5 0 (fun _ => 0) (tkE tp n q1)) fun x => .inr (x.1, plM rd.1 k x.2.1 x.2.2, rd.2.1, rd.2.2.1 ++ [(tkW tp n (tkE tp n q), 2, pMs rd.1)], rd.2.2.2)
def plO (p : Pl) (s a b : Nat) : Pl := u2 (u2 (u2 (u2 p 17 (pN p) s) 18 (pN p) a) 19 (pN p) b) 16 0 (pN p + 1)
def ntS (tp : Nat → Int32) (n q : Nat) : Option Nat := if isW tp n q 5 = true then some 0 else if isW tp n q 6 = true then some 1 else none
def pNote (tp : Nat → Int32) (n : Nat) (rd : Rd) (q : Nat) : Pr (Nat × Rd) := if 6 ≤ pN rd.1 then .inl (5, tkP tp n q) else match ntS tp n (tkE tp n q) with
  | none => .inl (1, tkP tp n (tkE tp n q))
  | some s => pB (pWh tp n 0 23 (tkE tp n (tkE tp n q))) fun x1 => pB (pW tp n 11 x1.2) fun q3 => pB (pW tp n (if s = 0 then 6 else 5) q3) fun q4 => pB (pWh tp n 0 23 q4) fun x2 =>
    .inr (x2.2, plO rd.1 s x1.1 x2.1, rd.2.1, rd.2.2.1, rd.2.2.2)
def pLine (tp : Nat → Int32) (n : Nat) (rd : Rd) (q : Nat) : Pr (Nat × Rd) :=
  if isW tp n q 0 = true then pCloth tp n rd q else if isW tp n q 1 = true then pColour tp n rd q else if isW tp n q 2 = true then pRow tp n rd q else if isW tp n q 3 = true then pNext tp n rd q else if isW tp n q 4 = true then pAnsw tp n rd q else if isW tp n q 5 = true then pSide tp n 0 rd q else if isW tp n q 6 = true then pSide tp n 1 rd q else if isW tp n q 7 = true then pMotif tp n rd q else if isW tp n q 8 = true then pNote tp n rd q else .inl (1, tkP tp n q)
def pAll (tp : Nat → Int32) (n : Nat) : Nat → Rd → Nat → Pr Rd
  | 0, _, q => .inl (1, tkP tp n q)
  | k + 1, rd, q => pB (pLine tp n rd q) fun x => if tkK tp n x.1 = 0 then (if x.2.2.2.2 0 0 = true ∧ 0 < pK x.2.1 then .inr x.2 else .inl (6, tkP tp n x.1)) else if tkK tp n x.1 = 3 then pAll tp n k x.2 (tkE tp n x.1) else .inl (1, tkP tp n x.1)
def rd0 : Rd := (p0, lo0, [], fun _ _ => false)
def pRead (tp : Nat → Int32) (n : Nat) : Pr Rd := pAll tp n 901 rd0 0
