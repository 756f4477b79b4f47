/-! A PLAN: abstract (field, place -> number), and as the class holds it -/
abbrev Pl : Type := Nat → Nat → Nat
def pLen (p : Pl) : Nat := p 0 0
def pSl (p : Pl) : Nat := p 1 0
def pRate (p : Pl) : Nat := p 2 0
def pH (p : Pl) (s : Nat) : Nat := p 3 s
def pCs (p : Pl) : Nat := p 4 0
def pK (p : Pl) : Nat := p 5 0
def pCol (p : Pl) (r : Nat) : Nat := p 6 r
def pTk (p : Pl) (r : Nat) : Nat := p 7 r
def pPar (p : Pl) (r : Nat) : Nat := p 8 r
def pSm (p : Pl) (r : Nat) : Bool := decide (p 9 r = 1)
def pNx (p : Pl) (r s : Nat) : Bool := decide (p (100 + r) s = 1)
def pMs (p : Pl) : Nat := p 12 0
def pMK (p : Pl) (m : Nat) : Nat := p 13 m
def pML (p : Pl) (m : Nat) : Nat := p 14 m
def pMR (p : Pl) (i : Nat) : Nat := p 15 i
def pN (p : Pl) : Nat := p 16 0
def pNS (p : Pl) (i : Nat) : Nat := p 17 i
def pNF (p : Pl) (i : Nat) : Nat := p 18 i
def pNT (p : Pl) (i : Nat) : Nat := p 19 i
def PlOK (p : Pl) : Prop := (pK p ≤ 8) ∧ (pCs p ≤ 2) ∧ (∀ r, r < pK p → pCol p r < pCs p) ∧ (∀ r, r < pK p → pTk p r ≤ 3) ∧ (∀ r, r < pK p → pPar p r < pK p) ∧ (pLen p ≤ 60) ∧ (pSl p ≤ 9) ∧ (pRate p ≤ 5) ∧ (∀ s, s < 2 → pH p s ≤ 9) ∧ (∀ r s, pNx p r s = true → r < pK p ∧ s < pK p) ∧ (∀ r, pSm p r = true → r < pK p) ∧ (pMs p ≤ 4) ∧ (∀ m, m < pMs p → pMK p m < 4) ∧ (∀ m, m < pMs p → pML p m ≤ 4) ∧ (∀ m i, m < pMs p → i < pML p m → pMR p (m * 4 + i) < pK p) ∧ (pN p ≤ 6) ∧ (∀ i, i < pN p → pNS p i < 2) ∧ (∀ i, i < pN p → pNF p i < 24) ∧ (∀ i, i < pN p → pNT p i < 24)
theorem PlOK.kinds {p : Pl} (h : PlOK p) : pK p ≤ 8 := h.1
theorem PlOK.cols {p : Pl} (h : PlOK p) : pCs p ≤ 2 := h.2.1
theorem PlOK.col {p : Pl} (h : PlOK p) : ∀ r, r < pK p → pCol p r < pCs p := h.2.2.1
theorem PlOK.tk {p : Pl} (h : PlOK p) : ∀ r, r < pK p → pTk p r ≤ 3 := h.2.2.2.1
theorem PlOK.par {p : Pl} (h : PlOK p) : ∀ r, r < pK p → pPar p r < pK p := h.2.2.2.2.1
theorem PlOK.len {p : Pl} (h : PlOK p) : pLen p ≤ 60 := h.2.2.2.2.2.1
theorem PlOK.sl {p : Pl} (h : PlOK p) : pSl p ≤ 9 := h.2.2.2.2.2.2.1
theorem PlOK.rate {p : Pl} (h : PlOK p) : pRate p ≤ 5 := h.2.2.2.2.2.2.2.1
theorem PlOK.hand {p : Pl} (h : PlOK p) : ∀ s, s < 2 → pH p s ≤ 9 := h.2.2.2.2.2.2.2.2.1
theorem PlOK.nx {p : Pl} (h : PlOK p) : ∀ r s, pNx p r s = true → r < pK p ∧ s < pK p := h.2.2.2.2.2.2.2.2.2.1
theorem PlOK.sm {p : Pl} (h : PlOK p) : ∀ r, pSm p r = true → r < pK p := h.2.2.2.2.2.2.2.2.2.2.1
theorem PlOK.ms {p : Pl} (h : PlOK p) : pMs p ≤ 4 := h.2.2.2.2.2.2.2.2.2.2.2.1
theorem PlOK.mk {p : Pl} (h : PlOK p) : ∀ m, m < pMs p → pMK p m < 4 := h.2.2.2.2.2.2.2.2.2.2.2.2.1
theorem PlOK.ml {p : Pl} (h : PlOK p) : ∀ m, m < pMs p → pML p m ≤ 4 := h.2.2.2.2.2.2.2.2.2.2.2.2.2.1
theorem PlOK.mr {p : Pl} (h : PlOK p) : ∀ m i, m < pMs p → i < pML p m → pMR p (m * 4 + i) < pK p := h.2.2.2.2.2.2.2.2.2.2.2.2.2.2.1
theorem PlOK.nn {p : Pl} (h : PlOK p) : pN p ≤ 6 := h.2.2.2.2.2.2.2.2.2.2.2.2.2.2.2.1
theorem PlOK.ns {p : Pl} (h : PlOK p) : ∀ i, i < pN p → pNS p i < 2 := h.2.2.2.2.2.2.2.2.2.2.2.2.2.2.2.2.1
theorem PlOK.nf {p : Pl} (h : PlOK p) : ∀ i, i < pN p → pNF p i < 24 := h.2.2.2.2.2.2.2.2.2.2.2.2.2.2.2.2.2.1
theorem PlOK.nt {p : Pl} (h : PlOK p) : ∀ i, i < pN p → pNT p i < 24 := h.2.2.2.2.2.2.2.2.2.2.2.2.2.2.2.2.2.2
def PlanT (M : qM) (P : Nat) : Prop := (tg M P = (5, 20)) ∧ (vr M P 3 = some (P + 1)) ∧ (vr M P 6 = some (P + 2)) ∧ (vr M P 7 = some (P + 3)) ∧ (vr M P 8 = some (P + 4)) ∧ (vr M P 10 = some (P + 5)) ∧ (vr M P 11 = some (P + 6)) ∧ (vr M P 13 = some (P + 7)) ∧ (vr M P 14 = some (P + 8)) ∧ (vr M P 15 = some (P + 9)) ∧ (vr M P 17 = some (P + 10)) ∧ (vr M P 18 = some (P + 11)) ∧ (vr M P 19 = some (P + 12)) ∧ (tg M (P + 1) = (20, 2)) ∧ (tg M (P + 2) = (20, 8)) ∧ (tg M (P + 3) = (20, 8)) ∧ (tg M (P + 4) = (20, 8)) ∧ (tg M (P + 5) = (20, 8)) ∧ (tg M (P + 6) = (20, 8)) ∧ (tg M (P + 7) = (20, 4)) ∧ (tg M (P + 8) = (20, 4)) ∧ (tg M (P + 9) = (20, 16)) ∧ (tg M (P + 10) = (20, 6)) ∧ (tg M (P + 11) = (20, 6)) ∧ (tg M (P + 12) = (20, 6))
theorem PlanT.t {M : qM} {P : Nat} (h : PlanT M P) : tg M P = (5, 20) := h.1
theorem PlanT.r3 {M : qM} {P : Nat} (h : PlanT M P) : vr M P 3 = some (P + 1) := h.2.1
theorem PlanT.r6 {M : qM} {P : Nat} (h : PlanT M P) : vr M P 6 = some (P + 2) := h.2.2.1
theorem PlanT.r7 {M : qM} {P : Nat} (h : PlanT M P) : vr M P 7 = some (P + 3) := h.2.2.2.1
theorem PlanT.r8 {M : qM} {P : Nat} (h : PlanT M P) : vr M P 8 = some (P + 4) := h.2.2.2.2.1
theorem PlanT.r10 {M : qM} {P : Nat} (h : PlanT M P) : vr M P 10 = some (P + 5) := h.2.2.2.2.2.1
theorem PlanT.r11 {M : qM} {P : Nat} (h : PlanT M P) : vr M P 11 = some (P + 6) := h.2.2.2.2.2.2.1
theorem PlanT.r13 {M : qM} {P : Nat} (h : PlanT M P) : vr M P 13 = some (P + 7) := h.2.2.2.2.2.2.2.1
theorem PlanT.r14 {M : qM} {P : Nat} (h : PlanT M P) : vr M P 14 = some (P + 8) := h.2.2.2.2.2.2.2.2.1
theorem PlanT.r15 {M : qM} {P : Nat} (h : PlanT M P) : vr M P 15 = some (P + 9) := h.2.2.2.2.2.2.2.2.2.1
theorem PlanT.r17 {M : qM} {P : Nat} (h : PlanT M P) : vr M P 17 = some (P + 10) := h.2.2.2.2.2.2.2.2.2.2.1
theorem PlanT.r18 {M : qM} {P : Nat} (h : PlanT M P) : vr M P 18 = some (P + 11) := h.2.2.2.2.2.2.2.2.2.2.2.1
theorem PlanT.r19 {M : qM} {P : Nat} (h : PlanT M P) : vr M P 19 = some (P + 12) := h.2.2.2.2.2.2.2.2.2.2.2.2.1
theorem PlanT.t1 {M : qM} {P : Nat} (h : PlanT M P) : tg M (P + 1) = (20, 2) := h.2.2.2.2.2.2.2.2.2.2.2.2.2.1
theorem PlanT.t2 {M : qM} {P : Nat} (h : PlanT M P) : tg M (P + 2) = (20, 8) := h.2.2.2.2.2.2.2.2.2.2.2.2.2.2.1
theorem PlanT.t3 {M : qM} {P : Nat} (h : PlanT M P) : tg M (P + 3) = (20, 8) := h.2.2.2.2.2.2.2.2.2.2.2.2.2.2.2.1
theorem PlanT.t4 {M : qM} {P : Nat} (h : PlanT M P) : tg M (P + 4) = (20, 8) := h.2.2.2.2.2.2.2.2.2.2.2.2.2.2.2.2.1
theorem PlanT.t5 {M : qM} {P : Nat} (h : PlanT M P) : tg M (P + 5) = (20, 8) := h.2.2.2.2.2.2.2.2.2.2.2.2.2.2.2.2.2.1
theorem PlanT.t6 {M : qM} {P : Nat} (h : PlanT M P) : tg M (P + 6) = (20, 8) := h.2.2.2.2.2.2.2.2.2.2.2.2.2.2.2.2.2.2.1
theorem PlanT.t7 {M : qM} {P : Nat} (h : PlanT M P) : tg M (P + 7) = (20, 4) := h.2.2.2.2.2.2.2.2.2.2.2.2.2.2.2.2.2.2.2.1
theorem PlanT.t8 {M : qM} {P : Nat} (h : PlanT M P) : tg M (P + 8) = (20, 4) := h.2.2.2.2.2.2.2.2.2.2.2.2.2.2.2.2.2.2.2.2.1
theorem PlanT.t9 {M : qM} {P : Nat} (h : PlanT M P) : tg M (P + 9) = (20, 16) := h.2.2.2.2.2.2.2.2.2.2.2.2.2.2.2.2.2.2.2.2.2.1
theorem PlanT.t10 {M : qM} {P : Nat} (h : PlanT M P) : tg M (P + 10) = (20, 6) := h.2.2.2.2.2.2.2.2.2.2.2.2.2.2.2.2.2.2.2.2.2.2.1
theorem PlanT.t11 {M : qM} {P : Nat} (h : PlanT M P) : tg M (P + 11) = (20, 6) := h.2.2.2.2.2.2.2.2.2.2.2.2.2.2.2.2.2.2.2.2.2.2.2.1
theorem PlanT.t12 {M : qM} {P : Nat} (h : PlanT M P) : tg M (P + 12) = (20, 6) := h.2.2.2.2.2.2.2.2.2.2.2.2.2.2.2.2.2.2.2.2.2.2.2.2
def PlanV (M : qM) (P : Nat) (p : Pl) : Prop := (vi M P 0 = n32 (pLen p)) ∧ (vi M P 1 = n32 (pSl p)) ∧ (vi M P 2 = n32 (pRate p)) ∧ (vi M (P + 1) 0 = n32 (pH p 0)) ∧ (vi M (P + 1) 1 = n32 (pH p 1)) ∧ (vi M P 4 = n32 (pCs p)) ∧ (vi M P 5 = n32 (pK p)) ∧ (∀ r, r < pK p → vi M (P + 2) r = n32 (pCol p r)) ∧ (∀ r, r < pK p → vi M (P + 3) r = n32 (pTk p r)) ∧ (∀ r, r < pK p → vi M (P + 4) r = n32 (pPar p r)) ∧ (∀ i, bt (vi M P 9) i = pSm p i) ∧ (∀ r, r < pK p → ∀ i, bt (vi M (P + 5) r) i = pNx p r i) ∧ (∀ r, r < pK p → ∀ i, bt (vi M (P + 6) r) i = pNx p i r) ∧ (vi M P 12 = n32 (pMs p)) ∧ (∀ m, m < pMs p → vi M (P + 7) m = n32 (pMK p m)) ∧ (∀ m, m < pMs p → vi M (P + 8) m = n32 (pML p m)) ∧ (∀ m i, m < pMs p → i < pML p m → vi M (P + 9) (m * 4 + i) = n32 (pMR p (m * 4 + i))) ∧ (vi M P 16 = n32 (pN p)) ∧ (∀ i, i < pN p → vi M (P + 10) i = n32 (pNS p i)) ∧ (∀ i, i < pN p → vi M (P + 11) i = n32 (pNF p i)) ∧ (∀ i, i < pN p → vi M (P + 12) i = n32 (pNT p i))
theorem PlanV.len {M : qM} {P : Nat} {p : Pl} (h : PlanV M P p) : vi M P 0 = n32 (pLen p) := h.1
theorem PlanV.sl {M : qM} {P : Nat} {p : Pl} (h : PlanV M P p) : vi M P 1 = n32 (pSl p) := h.2.1
theorem PlanV.rate {M : qM} {P : Nat} {p : Pl} (h : PlanV M P p) : vi M P 2 = n32 (pRate p) := h.2.2.1
theorem PlanV.h0 {M : qM} {P : Nat} {p : Pl} (h : PlanV M P p) : vi M (P + 1) 0 = n32 (pH p 0) := h.2.2.2.1
theorem PlanV.h1 {M : qM} {P : Nat} {p : Pl} (h : PlanV M P p) : vi M (P + 1) 1 = n32 (pH p 1) := h.2.2.2.2.1
theorem PlanV.cols {M : qM} {P : Nat} {p : Pl} (h : PlanV M P p) : vi M P 4 = n32 (pCs p) := h.2.2.2.2.2.1
theorem PlanV.kinds {M : qM} {P : Nat} {p : Pl} (h : PlanV M P p) : vi M P 5 = n32 (pK p) := h.2.2.2.2.2.2.1
theorem PlanV.col {M : qM} {P : Nat} {p : Pl} (h : PlanV M P p) : ∀ r, r < pK p → vi M (P + 2) r = n32 (pCol p r) := h.2.2.2.2.2.2.2.1
theorem PlanV.tk {M : qM} {P : Nat} {p : Pl} (h : PlanV M P p) : ∀ r, r < pK p → vi M (P + 3) r = n32 (pTk p r) := h.2.2.2.2.2.2.2.2.1
theorem PlanV.par {M : qM} {P : Nat} {p : Pl} (h : PlanV M P p) : ∀ r, r < pK p → vi M (P + 4) r = n32 (pPar p r) := h.2.2.2.2.2.2.2.2.2.1
theorem PlanV.sm {M : qM} {P : Nat} {p : Pl} (h : PlanV M P p) : ∀ i, bt (vi M P 9) i = pSm p i := h.2.2.2.2.2.2.2.2.2.2.1
theorem PlanV.nx {M : qM} {P : Nat} {p : Pl} (h : PlanV M P p) : ∀ r, r < pK p → ∀ i, bt (vi M (P + 5) r) i = pNx p r i := h.2.2.2.2.2.2.2.2.2.2.2.1
theorem PlanV.pv {M : qM} {P : Nat} {p : Pl} (h : PlanV M P p) : ∀ r, r < pK p → ∀ i, bt (vi M (P + 6) r) i = pNx p i r := h.2.2.2.2.2.2.2.2.2.2.2.2.1
theorem PlanV.ms {M : qM} {P : Nat} {p : Pl} (h : PlanV M P p) : vi M P 12 = n32 (pMs p) := h.2.2.2.2.2.2.2.2.2.2.2.2.2.1
theorem PlanV.mk {M : qM} {P : Nat} {p : Pl} (h : PlanV M P p) : ∀ m, m < pMs p → vi M (P + 7) m = n32 (pMK p m) := h.2.2.2.2.2.2.2.2.2.2.2.2.2.2.1
theorem PlanV.ml {M : qM} {P : Nat} {p : Pl} (h : PlanV M P p) : ∀ m, m < pMs p → vi M (P + 8) m = n32 (pML p m) := h.2.2.2.2.2.2.2.2.2.2.2.2.2.2.2.1
theorem PlanV.mr {M : qM} {P : Nat} {p : Pl} (h : PlanV M P p) : ∀ m i, m < pMs p → i < pML p m → vi M (P + 9) (m * 4 + i) = n32 (pMR p (m * 4 + i)) := h.2.2.2.2.2.2.2.2.2.2.2.2.2.2.2.2.1
theorem PlanV.nn {M : qM} {P : Nat} {p : Pl} (h : PlanV M P p) : vi M P 16 = n32 (pN p) := h.2.2.2.2.2.2.2.2.2.2.2.2.2.2.2.2.2.1
theorem PlanV.ns {M : qM} {P : Nat} {p : Pl} (h : PlanV M P p) : ∀ i, i < pN p → vi M (P + 10) i = n32 (pNS p i) := h.2.2.2.2.2.2.2.2.2.2.2.2.2.2.2.2.2.2.1
theorem PlanV.nf {M : qM} {P : Nat} {p : Pl} (h : PlanV M P p) : ∀ i, i < pN p → vi M (P + 11) i = n32 (pNF p i) := h.2.2.2.2.2.2.2.2.2.2.2.2.2.2.2.2.2.2.2.1
theorem PlanV.nt {M : qM} {P : Nat} {p : Pl} (h : PlanV M P p) : ∀ i, i < pN p → vi M (P + 12) i = n32 (pNT p i) := h.2.2.2.2.2.2.2.2.2.2.2.2.2.2.2.2.2.2.2.2
def PlanAt (M : qM) (P : Nat) (p : Pl) : Prop := (PlanT M P) ∧ (PlanV M P p) ∧ (PlOK p)
theorem PlanAt.T {M : qM} {P : Nat} {p : Pl} (h : PlanAt M P p) : PlanT M P := h.1
theorem PlanAt.V {M : qM} {P : Nat} {p : Pl} (h : PlanAt M P p) : PlanV M P p := h.2.1
theorem PlanAt.O {M : qM} {P : Nat} {p : Pl} (h : PlanAt M P p) : PlOK p := h.2.2
def anyB (n : Nat) (f : Nat → Bool) : Bool := (List.range n).any f
theorem anyB_true {n : Nat} {f : Nat → Bool} : anyB n f = true ↔ ∃ i, i < n ∧ f i = true := by simp [anyB]
theorem anyB_false {n : Nat} {f : Nat → Bool} : anyB n f = false ↔ ∀ i, i < n → f i = false := by simp [anyB]
/-- may one of these rows have one of those at its right? -/
def jn (p : Pl) (S T : Nat → Bool) : Bool := anyB 8 fun r => anyB 8 fun q => S r && T q && pNx p r q && decide (r < pK p ∧ q < pK p)
theorem jn_true {p : Pl} (hk : pK p ≤ 8) {S T : Nat → Bool} : jn p S T = true ↔ ∃ r q, S r = true ∧ T q = true ∧ pNx p r q = true ∧ r < pK p ∧ q < pK p := by
  constructor
  · intro h
    obtain ⟨r, -, h⟩ := anyB_true.mp h
    obtain ⟨q, -, h⟩ := anyB_true.mp h
    simp only [Bool.and_eq_true, decide_eq_true_eq] at h
    exact ⟨r, q, h.1.1.1, h.1.1.2, h.1.2, h.2.1, h.2.2⟩
  · rintro ⟨r, q, h1, h2, h3, h4, h5⟩
    exact anyB_true.mpr ⟨r, by omega, anyB_true.mpr ⟨q, by omega, by simp [h1, h2, h3, h4, h5]⟩⟩
/-- may r stand where o stands? -/
def insteadB (p : Pl) (r o : Nat) : Bool := decide (r ≠ o) && (pSm p r == pSm p o) && !anyB 8 (fun i => pNx p i o && !pNx p i r) && !anyB 8 (fun i => pNx p o i && !pNx p r i)
theorem q_hasBit (x : Int32) {r : Nat} (h : r < 32) (M : qM) : f_X8_hasBit [.int x, .int (n32 r)] M = some (some (.int (b2i (bt x r))), M) := by
  apply wF_eq
  unfold f_X8_hasBit b_X8_hasBit
  simp only [w_eK, w_eI, w_eL, w_eR, w_eT, w_b1, w_b2, w_b0, w_b0L, w_gI, w_gL, w_gN, w_gR, w_aI, w_aL, w_aR, w_aLen, w_tern, w_and, w_or, w_vN, vI, vJ, vA, vS, w_cFv, w_cFs, w_toI, w_toL, w_toV, w_nO, w_nA, eZ, cNot, s_skip, s_brk, s_cnt, s_retV, s_seq, s_if, s_set1, s_setL, s_inc, s_putI, s_putZ, s_putL, s_putR, s_upI, s_AI, s_AL, s_AR, s_UA, s_exp, s_ret, s_retZ, s_scope, s_unBrk, s_sw, s_sup, sSetI, sSetR, sRetI, sRetL, f_of, argE_n, argE_i, argE_r, argE_l, argE_a, sto_0, sto_s, sto_n0, sto_ns, isL_i, isL_r, isL_n, isL_a, isL_l, isL_0, rcv_r, rcv_a, List.getElem?_cons_zero, List.getElem?_cons_succ, List.getElem?_nil, List.set_cons_zero, List.set_cons_succ, List.take_succ_cons, List.take_zero, List.take_nil, List.length_cons, List.length_nil, List.nil_append, List.cons_append, Nat.reduceAdd, Nat.reduceSub, Nat.reduceLT, Nat.reduceEqDiff, Nat.reduceLeDiff, Nat.zero_add, Nat.lt_irrefl, Nat.succ_sub_one, and_true, true_and, and_false, false_and, not_false_eq_true, not_true_eq_false, Bool.false_eq_true, ↓reduceIte, if_true, if_false, decide_true, decide_false, decide_eq_true_eq, Option.some.injEq, and_self, Nat.add_one_sub_one, Nat.lt_add_one, Nat.zero_lt_succ, Value.int.injEq, Value.ref.injEq, Value.long.injEq, exists_eq_left', exists_eq_left, Sum.inl.injEq, Sum.inr.injEq]
  have : i2z (shrI x (n32 r) &&& 1) = bt x r := has_ne h
  rw [this]
  exact ⟨okZ_b2i _, rfl⟩
section
variable {M : qM} {P : Nat} {p : Pl}
theorem q_allKinds (h : PlanAt M P p) : f_X4_allKinds [.ref P] M = some (some (.int (shlI 1 (n32 (pK p)) - 1)), M) := by
  apply wF_eq
  unfold f_X4_allKinds b_X4_allKinds
  simp only [w_eK, w_eI, w_eL, w_eR, w_eT, w_b1, w_b2, w_b0, w_b0L, w_gI, w_gL, w_gN, w_gR, w_aI, w_aL, w_aR, w_aLen, w_tern, w_and, w_or, w_vN, vI, vJ, vA, vS, w_cFv, w_cFs, w_toI, w_toL, w_toV, w_nO, w_nA, eZ, cNot, s_skip, s_brk, s_cnt, s_retV, s_seq, s_if, s_set1, s_setL, s_inc, s_putI, s_putZ, s_putL, s_putR, s_upI, s_AI, s_AL, s_AR, s_UA, s_exp, s_ret, s_retZ, s_scope, s_unBrk, s_sw, s_sup, sSetI, sSetR, sRetI, sRetL, f_of, argE_n, argE_i, argE_r, argE_l, argE_a, sto_0, sto_s, sto_n0, sto_ns, isL_i, isL_r, isL_n, isL_a, isL_l, isL_0, rcv_r, rcv_a, List.getElem?_cons_zero, List.getElem?_cons_succ, List.getElem?_nil, List.set_cons_zero, List.set_cons_succ, List.take_succ_cons, List.take_zero, List.take_nil, List.length_cons, List.length_nil, List.nil_append, List.cons_append, Nat.reduceAdd, Nat.reduceSub, Nat.reduceLT, Nat.reduceEqDiff, Nat.reduceLeDiff, Nat.zero_add, Nat.lt_irrefl, Nat.succ_sub_one, and_true, true_and, and_false, false_and, not_false_eq_true, not_true_eq_false, Bool.false_eq_true, ↓reduceIte, if_true, if_false, decide_true, decide_false, decide_eq_true_eq, Option.some.injEq, and_self, Nat.add_one_sub_one, Nat.lt_add_one, Nat.zero_lt_succ, Value.int.injEq, Value.ref.injEq, Value.long.injEq, exists_eq_left', exists_eq_left, Sum.inl.injEq, Sum.inr.injEq, h.T.t, h.V.kinds]
theorem q_isSeam (h : PlanAt M P p) {r : Nat} (hr : r < 32) : f_X4_isSeam [.ref P, .int (n32 r)] M = some (some (.int (b2i (pSm p r))), M) := by
  apply wF_eq
  unfold f_X4_isSeam b_X4_isSeam
  simp only [w_eK, w_eI, w_eL, w_eR, w_eT, w_b1, w_b2, w_b0, w_b0L, w_gI, w_gL, w_gN, w_gR, w_aI, w_aL, w_aR, w_aLen, w_tern, w_and, w_or, w_vN, vI, vJ, vA, vS, w_cFv, w_cFs, w_toI, w_toL, w_toV, w_nO, w_nA, eZ, cNot, s_skip, s_brk, s_cnt, s_retV, s_seq, s_if, s_set1, s_setL, s_inc, s_putI, s_putZ, s_putL, s_putR, s_upI, s_AI, s_AL, s_AR, s_UA, s_exp, s_ret, s_retZ, s_scope, s_unBrk, s_sw, s_sup, sSetI, sSetR, sRetI, sRetL, f_of, argE_n, argE_i, argE_r, argE_l, argE_a, sto_0, sto_s, sto_n0, sto_ns, isL_i, isL_r, isL_n, isL_a, isL_l, isL_0, rcv_r, rcv_a, List.getElem?_cons_zero, List.getElem?_cons_succ, List.getElem?_nil, List.set_cons_zero, List.set_cons_succ, List.take_succ_cons, List.take_zero, List.take_nil, List.length_cons, List.length_nil, List.nil_append, List.cons_append, Nat.reduceAdd, Nat.reduceSub, Nat.reduceLT, Nat.reduceEqDiff, Nat.reduceLeDiff, Nat.zero_add, Nat.lt_irrefl, Nat.succ_sub_one, and_true, true_and, and_false, false_and, not_false_eq_true, not_true_eq_false, Bool.false_eq_true, ↓reduceIte, if_true, if_false, decide_true, decide_false, decide_eq_true_eq, Option.some.injEq, and_self, Nat.add_one_sub_one, Nat.lt_add_one, Nat.zero_lt_succ, Value.int.injEq, Value.ref.injEq, Value.long.injEq, exists_eq_left', exists_eq_left, Sum.inl.injEq, Sum.inr.injEq, h.T.t, wF_of (q_hasBit _ hr _), h.V.sm, okZ_b2i]
theorem q_takesOf (h : PlanAt M P p) {r c : Nat} (hr : r < pK p) (hc : c < 2) : f_X4_takesOf [.ref P, .int (n32 r), .int (n32 c)] M = some (some (.int (n32 (if pCol p r = c then pTk p r else 0))), M) := by
  have hk := h.O.kinds
  have hcl := h.O.col r hr
  have hcs := h.O.cols
  apply wF_eq
  unfold f_X4_takesOf b_X4_takesOf
  simp (disch := omega) only [w_eK, w_eI, w_eL, w_eR, w_eT, w_b1, w_b2, w_b0, w_b0L, w_gI, w_gL, w_gN, w_gR, w_aI, w_aL, w_aR, w_aLen, w_tern, w_and, w_or, w_vN, vI, vJ, vA, vS, w_cFv, w_cFs, w_toI, w_toL, w_toV, w_nO, w_nA, eZ, cNot, s_skip, s_brk, s_cnt, s_retV, s_seq, s_if, s_set1, s_setL, s_inc, s_putI, s_putZ, s_putL, s_putR, s_upI, s_AI, s_AL, s_AR, s_UA, s_exp, s_ret, s_retZ, s_scope, s_unBrk, s_sw, s_sup, sSetI, sSetR, sRetI, sRetL, f_of, argE_n, argE_i, argE_r, argE_l, argE_a, sto_0, sto_s, sto_n0, sto_ns, isL_i, isL_r, isL_n, isL_a, isL_l, isL_0, rcv_r, rcv_a, List.getElem?_cons_zero, List.getElem?_cons_succ, List.getElem?_nil, List.set_cons_zero, List.set_cons_succ, List.take_succ_cons, List.take_zero, List.take_nil, List.length_cons, List.length_nil, List.nil_append, List.cons_append, Nat.reduceAdd, Nat.reduceSub, Nat.reduceLT, Nat.reduceEqDiff, Nat.reduceLeDiff, Nat.zero_add, Nat.lt_irrefl, Nat.succ_sub_one, and_true, true_and, and_false, false_and, not_false_eq_true, not_true_eq_false, Bool.false_eq_true, ↓reduceIte, if_true, if_false, decide_true, decide_false, decide_eq_true_eq, Option.some.injEq, and_self, Nat.add_one_sub_one, Nat.lt_add_one, Nat.zero_lt_succ, Value.int.injEq, Value.ref.injEq, Value.long.injEq, exists_eq_left', exists_eq_left, Sum.inl.injEq, Sum.inr.injEq, h.T.t, h.T.r6, h.T.r7, h.T.t2, h.T.t3, n_iEq, n_iNe, n_iLt, n_iLe, n_iGt, n_iGe, n_zEq, n_zLt, n_zLe, n_zGt, n_zGe, n_inb, n32_clamp, h.V.col r hr, h.V.tk r hr]
  refine ⟨by omega, ?_⟩
  by_cases e : pCol p r = c
  · simp only [e, w_eK, w_eI, w_eL, w_eR, w_eT, w_b1, w_b2, w_b0, w_b0L, w_gI, w_gL, w_gN, w_gR, w_aI, w_aL, w_aR, w_aLen, w_tern, w_and, w_or, w_vN, vI, vJ, vA, vS, w_cFv, w_cFs, w_toI, w_toL, w_toV, w_nO, w_nA, eZ, cNot, s_skip, s_brk, s_cnt, s_retV, s_seq, s_if, s_set1, s_setL, s_inc, s_putI, s_putZ, s_putL, s_putR, s_upI, s_AI, s_AL, s_AR, s_UA, s_exp, s_ret, s_retZ, s_scope, s_unBrk, s_sw, s_sup, sSetI, sSetR, sRetI, sRetL, f_of, argE_n, argE_i, argE_r, argE_l, argE_a, sto_0, sto_s, sto_n0, sto_ns, isL_i, isL_r, isL_n, isL_a, isL_l, isL_0, rcv_r, rcv_a, List.getElem?_cons_zero, List.getElem?_cons_succ, List.getElem?_nil, List.set_cons_zero, List.set_cons_succ, List.take_succ_cons, List.take_zero, List.take_nil, List.length_cons, List.length_nil, List.nil_append, List.cons_append, Nat.reduceAdd, Nat.reduceSub, Nat.reduceLT, Nat.reduceEqDiff, Nat.reduceLeDiff, Nat.zero_add, Nat.lt_irrefl, Nat.succ_sub_one, and_true, true_and, and_false, false_and, not_false_eq_true, not_true_eq_false, Bool.false_eq_true, ↓reduceIte, if_true, if_false, decide_true, decide_false, decide_eq_true_eq, Option.some.injEq, and_self, Nat.add_one_sub_one, Nat.lt_add_one, Nat.zero_lt_succ, Value.int.injEq, Value.ref.injEq, Value.long.injEq, exists_eq_left', exists_eq_left, Sum.inl.injEq, Sum.inr.injEq]
    exact by omega
  · simp only [e, w_eK, w_eI, w_eL, w_eR, w_eT, w_b1, w_b2, w_b0, w_b0L, w_gI, w_gL, w_gN, w_gR, w_aI, w_aL, w_aR, w_aLen, w_tern, w_and, w_or, w_vN, vI, vJ, vA, vS, w_cFv, w_cFs, w_toI, w_toL, w_toV, w_nO, w_nA, eZ, cNot, s_skip, s_brk, s_cnt, s_retV, s_seq, s_if, s_set1, s_setL, s_inc, s_putI, s_putZ, s_putL, s_putR, s_upI, s_AI, s_AL, s_AR, s_UA, s_exp, s_ret, s_retZ, s_scope, s_unBrk, s_sw, s_sup, sSetI, sSetR, sRetI, sRetL, f_of, argE_n, argE_i, argE_r, argE_l, argE_a, sto_0, sto_s, sto_n0, sto_ns, isL_i, isL_r, isL_n, isL_a, isL_l, isL_0, rcv_r, rcv_a, List.getElem?_cons_zero, List.getElem?_cons_succ, List.getElem?_nil, List.set_cons_zero, List.set_cons_succ, List.take_succ_cons, List.take_zero, List.take_nil, List.length_cons, List.length_nil, List.nil_append, List.cons_append, Nat.reduceAdd, Nat.reduceSub, Nat.reduceLT, Nat.reduceEqDiff, Nat.reduceLeDiff, Nat.zero_add, Nat.lt_irrefl, Nat.succ_sub_one, and_true, true_and, and_false, false_and, not_false_eq_true, not_true_eq_false, Bool.false_eq_true, ↓reduceIte, if_true, if_false, decide_true, decide_false, decide_eq_true_eq, Option.some.injEq, and_self, Nat.add_one_sub_one, Nat.lt_add_one, Nat.zero_lt_succ, Value.int.injEq, Value.ref.injEq, Value.long.injEq, exists_eq_left', exists_eq_left, Sum.inl.injEq, Sum.inr.injEq]
    rfl
theorem q_unitsOf (h : PlanAt M P p) (a b : Nat) : f_X4_unitsOf [.ref P, .int (n32 a), .int (n32 b)] M = some (some (.int (n32 (a * pH p 0 + b * pH p 1))), M) := by
  apply wF_eq
  unfold f_X4_unitsOf b_X4_unitsOf
  simp (disch := omega) only [w_eK, w_eI, w_eL, w_eR, w_eT, w_b1, w_b2, w_b0, w_b0L, w_gI, w_gL, w_gN, w_gR, w_aI, w_aL, w_aR, w_aLen, w_tern, w_and, w_or, w_vN, vI, vJ, vA, vS, w_cFv, w_cFs, w_toI, w_toL, w_toV, w_nO, w_nA, eZ, cNot, s_skip, s_brk, s_cnt, s_retV, s_seq, s_if, s_set1, s_setL, s_inc, s_putI, s_putZ, s_putL, s_putR, s_upI, s_AI, s_AL, s_AR, s_UA, s_exp, s_ret, s_retZ, s_scope, s_unBrk, s_sw, s_sup, sSetI, sSetR, sRetI, sRetL, f_of, argE_n, argE_i, argE_r, argE_l, argE_a, sto_0, sto_s, sto_n0, sto_ns, isL_i, isL_r, isL_n, isL_a, isL_l, isL_0, rcv_r, rcv_a, List.getElem?_cons_zero, List.getElem?_cons_succ, List.getElem?_nil, List.set_cons_zero, List.set_cons_succ, List.take_succ_cons, List.take_zero, List.take_nil, List.length_cons, List.length_nil, List.nil_append, List.cons_append, Nat.reduceAdd, Nat.reduceSub, Nat.reduceLT, Nat.reduceEqDiff, Nat.reduceLeDiff, Nat.zero_add, Nat.lt_irrefl, Nat.succ_sub_one, and_true, true_and, and_false, false_and, not_false_eq_true, not_true_eq_false, Bool.false_eq_true, ↓reduceIte, if_true, if_false, decide_true, decide_false, decide_eq_true_eq, Option.some.injEq, and_self, Nat.add_one_sub_one, Nat.lt_add_one, Nat.zero_lt_succ, Value.int.injEq, Value.ref.injEq, Value.long.injEq, exists_eq_left', exists_eq_left, Sum.inl.injEq, Sum.inr.injEq, h.T.t, h.T.r3, h.T.t1, l_0, l_1, l_2, l_3, l_4, l_5, l_6, l_7, l_8, l_9, l_10, l_12, l_20, l_23, l_24, l_25, l_32, l_48, l_60, l_100, l_200, l_255, l_900, n32_add, n32_mul, n32_inc, n_iEq, n_iNe, n_iLt, n_iLe, n_iGt, n_iGe, n_zEq, n_zLt, n_zLe, n_zGt, n_zGe, n_inb, n32_clamp, h.V.h0, h.V.h1]
theorem q_fits (h : PlanAt M P p) {u : Nat} (hu : u < 1000000) : f_X4_fits [.ref P, .int (n32 u)] M = some (some (.int (b2i (decide (pLen p ≤ u ∧ u ≤ pLen p + pSl p)))), M) := by
  have h1 := h.O.len
  have h2 := h.O.sl
  apply wF_eq
  unfold f_X4_fits b_X4_fits
  simp (disch := omega) only [w_eK, w_eI, w_eL, w_eR, w_eT, w_b1, w_b2, w_b0, w_b0L, w_gI, w_gL, w_gN, w_gR, w_aI, w_aL, w_aR, w_aLen, w_tern, w_and, w_or, w_vN, vI, vJ, vA, vS, w_cFv, w_cFs, w_toI, w_toL, w_toV, w_nO, w_nA, eZ, cNot, s_skip, s_brk, s_cnt, s_retV, s_seq, s_if, s_set1, s_setL, s_inc, s_putI, s_putZ, s_putL, s_putR, s_upI, s_AI, s_AL, s_AR, s_UA, s_exp, s_ret, s_retZ, s_scope, s_unBrk, s_sw, s_sup, sSetI, sSetR, sRetI, sRetL, f_of, argE_n, argE_i, argE_r, argE_l, argE_a, sto_0, sto_s, sto_n0, sto_ns, isL_i, isL_r, isL_n, isL_a, isL_l, isL_0, rcv_r, rcv_a, List.getElem?_cons_zero, List.getElem?_cons_succ, List.getElem?_nil, List.set_cons_zero, List.set_cons_succ, List.take_succ_cons, List.take_zero, List.take_nil, List.length_cons, List.length_nil, List.nil_append, List.cons_append, Nat.reduceAdd, Nat.reduceSub, Nat.reduceLT, Nat.reduceEqDiff, Nat.reduceLeDiff, Nat.zero_add, Nat.lt_irrefl, Nat.succ_sub_one, and_true, true_and, and_false, false_and, not_false_eq_true, not_true_eq_false, Bool.false_eq_true, ↓reduceIte, if_true, if_false, decide_true, decide_false, decide_eq_true_eq, Option.some.injEq, and_self, Nat.add_one_sub_one, Nat.lt_add_one, Nat.zero_lt_succ, Value.int.injEq, Value.ref.injEq, Value.long.injEq, exists_eq_left', exists_eq_left, Sum.inl.injEq, Sum.inr.injEq, h.T.t, l_0, l_1, l_2, l_3, l_4, l_5, l_6, l_7, l_8, l_9, l_10, l_12, l_20, l_23, l_24, l_25, l_32, l_48, l_60, l_100, l_200, l_255, l_900, n32_add, n32_mul, n32_inc, n_iEq, n_iNe, n_iLt, n_iLe, n_iGt, n_iGe, n_zEq, n_zLt, n_zLe, n_zGt, n_zGe, n_inb, n32_clamp, h.V.len, h.V.sl]
  by_cases e1 : pLen p ≤ u <;> by_cases e2 : u ≤ pLen p + pSl p <;> simp [e1, e2, okZ_b2i]
/-- rows that a side (0 left, 1 right) may weave behind a row; no row: all -/
def fol (p : Pl) (s r q : Nat) : Bool := !pSm p r && (if s = 0 then pNx p r q else pNx p q r)
theorem q_behind (h : PlanAt M P p) {s r : Nat} (hs : s < 2) (hr : r < pK p) : ∃ x, f_X4_behind [.ref P, .int (n32 s), .int (n32 r)] M = some (some (.int x), M) ∧ ∀ i, bt x i = fol p s r i := by
  have hk := h.O.kinds
  have key : wF f_X4_behind [.ref P, .int (n32 s), .int (n32 r)] M (fun v m => ∃ x, v = some (.int x) ∧ m = M ∧ ∀ i, bt x i = fol p s r i) := by
    unfold f_X4_behind b_X4_behind
    simp (disch := omega) only [w_eK, w_eI, w_eL, w_eR, w_eT, w_b1, w_b2, w_b0, w_b0L, w_gI, w_gL, w_gN, w_gR, w_aI, w_aL, w_aR, w_aLen, w_tern, w_and, w_or, w_vN, vI, vJ, vA, vS, w_cFv, w_cFs, w_toI, w_toL, w_toV, w_nO, w_nA, eZ, cNot, s_skip, s_brk, s_cnt, s_retV, s_seq, s_if, s_set1, s_setL, s_inc, s_putI, s_putZ, s_putL, s_putR, s_upI, s_AI, s_AL, s_AR, s_UA, s_exp, s_ret, s_retZ, s_scope, s_unBrk, s_sw, s_sup, sSetI, sSetR, sRetI, sRetL, f_of, argE_n, argE_i, argE_r, argE_l, argE_a, sto_0, sto_s, sto_n0, sto_ns, isL_i, isL_r, isL_n, isL_a, isL_l, isL_0, rcv_r, rcv_a, List.getElem?_cons_zero, List.getElem?_cons_succ, List.getElem?_nil, List.set_cons_zero, List.set_cons_succ, List.take_succ_cons, List.take_zero, List.take_nil, List.length_cons, List.length_nil, List.nil_append, List.cons_append, Nat.reduceAdd, Nat.reduceSub, Nat.reduceLT, Nat.reduceEqDiff, Nat.reduceLeDiff, Nat.zero_add, Nat.lt_irrefl, Nat.succ_sub_one, and_true, true_and, and_false, false_and, not_false_eq_true, not_true_eq_false, Bool.false_eq_true, ↓reduceIte, if_true, if_false, decide_true, decide_false, decide_eq_true_eq, Option.some.injEq, and_self, Nat.add_one_sub_one, Nat.lt_add_one, Nat.zero_lt_succ, Value.int.injEq, Value.ref.injEq, Value.long.injEq, exists_eq_left', exists_eq_left, Sum.inl.injEq, Sum.inr.injEq, h.T.t, n_iEq, n_iNe, n_iLt, n_iLe, n_iGt, n_iGe, n_zEq, n_zLt, n_zLe, n_zGt, n_zGe, n_inb, n32_clamp, wF_of (q_hasBit _ (show r < 32 by omega) _), h.V.sm, i2z_b2i]
    cases e : pSm p r
    · simp (disch := omega) only [w_eK, w_eI, w_eL, w_eR, w_eT, w_b1, w_b2, w_b0, w_b0L, w_gI, w_gL, w_gN, w_gR, w_aI, w_aL, w_aR, w_aLen, w_tern, w_and, w_or, w_vN, vI, vJ, vA, vS, w_cFv, w_cFs, w_toI, w_toL, w_toV, w_nO, w_nA, eZ, cNot, s_skip, s_brk, s_cnt, s_retV, s_seq, s_if, s_set1, s_setL, s_inc, s_putI, s_putZ, s_putL, s_putR, s_upI, s_AI, s_AL, s_AR, s_UA, s_exp, s_ret, s_retZ, s_scope, s_unBrk, s_sw, s_sup, sSetI, sSetR, sRetI, sRetL, f_of, argE_n, argE_i, argE_r, argE_l, argE_a, sto_0, sto_s, sto_n0, sto_ns, isL_i, isL_r, isL_n, isL_a, isL_l, isL_0, rcv_r, rcv_a, List.getElem?_cons_zero, List.getElem?_cons_succ, List.getElem?_nil, List.set_cons_zero, List.set_cons_succ, List.take_succ_cons, List.take_zero, List.take_nil, List.length_cons, List.length_nil, List.nil_append, List.cons_append, Nat.reduceAdd, Nat.reduceSub, Nat.reduceLT, Nat.reduceEqDiff, Nat.reduceLeDiff, Nat.zero_add, Nat.lt_irrefl, Nat.succ_sub_one, and_true, true_and, and_false, false_and, not_false_eq_true, not_true_eq_false, Bool.false_eq_true, ↓reduceIte, if_true, if_false, decide_true, decide_false, decide_eq_true_eq, Option.some.injEq, and_self, Nat.add_one_sub_one, Nat.lt_add_one, Nat.zero_lt_succ, Value.int.injEq, Value.ref.injEq, Value.long.injEq, exists_eq_left', exists_eq_left, Sum.inl.injEq, Sum.inr.injEq, h.T.t, h.T.r10, h.T.r11, h.T.t5, h.T.t6, n_iEq, n_iNe, n_iLt, n_iLe, n_iGt, n_iGe, n_zEq, n_zLt, n_zLe, n_zGt, n_zGe, n_inb, n32_clamp]
      by_cases e0 : s = 0
      · simp only [e0, w_eK, w_eI, w_eL, w_eR, w_eT, w_b1, w_b2, w_b0, w_b0L, w_gI, w_gL, w_gN, w_gR, w_aI, w_aL, w_aR, w_aLen, w_tern, w_and, w_or, w_vN, vI, vJ, vA, vS, w_cFv, w_cFs, w_toI, w_toL, w_toV, w_nO, w_nA, eZ, cNot, s_skip, s_brk, s_cnt, s_retV, s_seq, s_if, s_set1, s_setL, s_inc, s_putI, s_putZ, s_putL, s_putR, s_upI, s_AI, s_AL, s_AR, s_UA, s_exp, s_ret, s_retZ, s_scope, s_unBrk, s_sw, s_sup, sSetI, sSetR, sRetI, sRetL, f_of, argE_n, argE_i, argE_r, argE_l, argE_a, sto_0, sto_s, sto_n0, sto_ns, isL_i, isL_r, isL_n, isL_a, isL_l, isL_0, rcv_r, rcv_a, List.getElem?_cons_zero, List.getElem?_cons_succ, List.getElem?_nil, List.set_cons_zero, List.set_cons_succ, List.take_succ_cons, List.take_zero, List.take_nil, List.length_cons, List.length_nil, List.nil_append, List.cons_append, Nat.reduceAdd, Nat.reduceSub, Nat.reduceLT, Nat.reduceEqDiff, Nat.reduceLeDiff, Nat.zero_add, Nat.lt_irrefl, Nat.succ_sub_one, and_true, true_and, and_false, false_and, not_false_eq_true, not_true_eq_false, Bool.false_eq_true, ↓reduceIte, if_true, if_false, decide_true, decide_false, decide_eq_true_eq, Option.some.injEq, and_self, Nat.add_one_sub_one, Nat.lt_add_one, Nat.zero_lt_succ, Value.int.injEq, Value.ref.injEq, Value.long.injEq, exists_eq_left', exists_eq_left, Sum.inl.injEq, Sum.inr.injEq]
        exact ⟨by omega, fun i => by simp [fol, e, h.V.nx r hr]⟩
      · simp only [e0, w_eK, w_eI, w_eL, w_eR, w_eT, w_b1, w_b2, w_b0, w_b0L, w_gI, w_gL, w_gN, w_gR, w_aI, w_aL, w_aR, w_aLen, w_tern, w_and, w_or, w_vN, vI, vJ, vA, vS, w_cFv, w_cFs, w_toI, w_toL, w_toV, w_nO, w_nA, eZ, cNot, s_skip, s_brk, s_cnt, s_retV, s_seq, s_if, s_set1, s_setL, s_inc, s_putI, s_putZ, s_putL, s_putR, s_upI, s_AI, s_AL, s_AR, s_UA, s_exp, s_ret, s_retZ, s_scope, s_unBrk, s_sw, s_sup, sSetI, sSetR, sRetI, sRetL, f_of, argE_n, argE_i, argE_r, argE_l, argE_a, sto_0, sto_s, sto_n0, sto_ns, isL_i, isL_r, isL_n, isL_a, isL_l, isL_0, rcv_r, rcv_a, List.getElem?_cons_zero, List.getElem?_cons_succ, List.getElem?_nil, List.set_cons_zero, List.set_cons_succ, List.take_succ_cons, List.take_zero, List.take_nil, List.length_cons, List.length_nil, List.nil_append, List.cons_append, Nat.reduceAdd, Nat.reduceSub, Nat.reduceLT, Nat.reduceEqDiff, Nat.reduceLeDiff, Nat.zero_add, Nat.lt_irrefl, Nat.succ_sub_one, and_true, true_and, and_false, false_and, not_false_eq_true, not_true_eq_false, Bool.false_eq_true, ↓reduceIte, if_true, if_false, decide_true, decide_false, decide_eq_true_eq, Option.some.injEq, and_self, Nat.add_one_sub_one, Nat.lt_add_one, Nat.zero_lt_succ, Value.int.injEq, Value.ref.injEq, Value.long.injEq, exists_eq_left', exists_eq_left, Sum.inl.injEq, Sum.inr.injEq]
        exact ⟨by omega, fun i => by simp [fol, e, h.V.pv r hr, e0]⟩
    · simp only [w_eK, w_eI, w_eL, w_eR, w_eT, w_b1, w_b2, w_b0, w_b0L, w_gI, w_gL, w_gN, w_gR, w_aI, w_aL, w_aR, w_aLen, w_tern, w_and, w_or, w_vN, vI, vJ, vA, vS, w_cFv, w_cFs, w_toI, w_toL, w_toV, w_nO, w_nA, eZ, cNot, s_skip, s_brk, s_cnt, s_retV, s_seq, s_if, s_set1, s_setL, s_inc, s_putI, s_putZ, s_putL, s_putR, s_upI, s_AI, s_AL, s_AR, s_UA, s_exp, s_ret, s_retZ, s_scope, s_unBrk, s_sw, s_sup, sSetI, sSetR, sRetI, sRetL, f_of, argE_n, argE_i, argE_r, argE_l, argE_a, sto_0, sto_s, sto_n0, sto_ns, isL_i, isL_r, isL_n, isL_a, isL_l, isL_0, rcv_r, rcv_a, List.getElem?_cons_zero, List.getElem?_cons_succ, List.getElem?_nil, List.set_cons_zero, List.set_cons_succ, List.take_succ_cons, List.take_zero, List.take_nil, List.length_cons, List.length_nil, List.nil_append, List.cons_append, Nat.reduceAdd, Nat.reduceSub, Nat.reduceLT, Nat.reduceEqDiff, Nat.reduceLeDiff, Nat.zero_add, Nat.lt_irrefl, Nat.succ_sub_one, and_true, true_and, and_false, false_and, not_false_eq_true, not_true_eq_false, Bool.false_eq_true, ↓reduceIte, if_true, if_false, decide_true, decide_false, decide_eq_true_eq, Option.some.injEq, and_self, Nat.add_one_sub_one, Nat.lt_add_one, Nat.zero_lt_succ, Value.int.injEq, Value.ref.injEq, Value.long.injEq, exists_eq_left', exists_eq_left, Sum.inl.injEq, Sum.inr.injEq]
      exact fun i => by simp [fol, e, bt_zero]
  obtain ⟨v, m, h1, x, rfl, rfl, h2⟩ := key
  exact ⟨x, h1, h2⟩
theorem q_behindN (h : PlanAt M P p) {s : Nat} (hs : s < 2) : f_X4_behind [.ref P, .int (n32 s), .int (-1)] M = some (some (.int (shlI 1 (n32 (pK p)) - 1)), M) := by
  apply wF_eq
  unfold f_X4_behind b_X4_behind
  have : zLt (-1) = true := by decide
  simp only [w_eK, w_eI, w_eL, w_eR, w_eT, w_b1, w_b2, w_b0, w_b0L, w_gI, w_gL, w_gN, w_gR, w_aI, w_aL, w_aR, w_aLen, w_tern, w_and, w_or, w_vN, vI, vJ, vA, vS, w_cFv, w_cFs, w_toI, w_toL, w_toV, w_nO, w_nA, eZ, cNot, s_skip, s_brk, s_cnt, s_retV, s_seq, s_if, s_set1, s_setL, s_inc, s_putI, s_putZ, s_putL, s_putR, s_upI, s_AI, s_AL, s_AR, s_UA, s_exp, s_ret, s_retZ, s_scope, s_unBrk, s_sw, s_sup, sSetI, sSetR, sRetI, sRetL, f_of, argE_n, argE_i, argE_r, argE_l, argE_a, sto_0, sto_s, sto_n0, sto_ns, isL_i, isL_r, isL_n, isL_a, isL_l, isL_0, rcv_r, rcv_a, List.getElem?_cons_zero, List.getElem?_cons_succ, List.getElem?_nil, List.set_cons_zero, List.set_cons_succ, List.take_succ_cons, List.take_zero, List.take_nil, List.length_cons, List.length_nil, List.nil_append, List.cons_append, Nat.reduceAdd, Nat.reduceSub, Nat.reduceLT, Nat.reduceEqDiff, Nat.reduceLeDiff, Nat.zero_add, Nat.lt_irrefl, Nat.succ_sub_one, and_true, true_and, and_false, false_and, not_false_eq_true, not_true_eq_false, Bool.false_eq_true, ↓reduceIte, if_true, if_false, decide_true, decide_false, decide_eq_true_eq, Option.some.injEq, and_self, Nat.add_one_sub_one, Nat.lt_add_one, Nat.zero_lt_succ, Value.int.injEq, Value.ref.injEq, Value.long.injEq, exists_eq_left', exists_eq_left, Sum.inl.injEq, Sum.inr.injEq, h.T.t, this, wF_of (q_allKinds h)]
theorem q_standsFor (h : PlanAt M P p) {r o : Nat} (hr : r < pK p) (ho : o < pK p) : f_X4_standsFor [.ref P, .int (n32 r), .int (n32 o)] M = some (some (.int (b2i (insteadB p r o))), M) := by
  have hk := h.O.kinds
  have e1 : zEq (vi M (P + 6) o &&& (vi M (P + 6) r ^^^ -1)) = !anyB 8 (fun i => pNx p i o && !pNx p i r) := by
    rw [Bool.eq_iff_iff]
    simp only [zEq, decide_eq_true_eq, Bool.not_eq_true', anyB_false]
    constructor
    · intro hz i hi
      have := congrArg (fun x => bt x i) hz
      simp only [bt_and, bt_cpl _ (show i < 32 by omega), bt_zero, h.V.pv r hr, h.V.pv o ho] at this
      exact this
    · intro hz
      refine bt_ext fun i hi => ?_
      simp only [bt_and, bt_cpl _ hi, bt_zero, h.V.pv r hr, h.V.pv o ho]
      by_cases h8 : i < 8
      · exact hz i h8
      · have : pNx p i o = false := by
          cases e : pNx p i o
          · rfl
          · have := (h.O.nx i o e).1
            omega
        simp [this]
  have e2 : zEq (vi M (P + 5) o &&& (vi M (P + 5) r ^^^ -1)) = !anyB 8 (fun i => pNx p o i && !pNx p r i) := by
    rw [Bool.eq_iff_iff]
    simp only [zEq, decide_eq_true_eq, Bool.not_eq_true', anyB_false]
    constructor
    · intro hz i hi
      have := congrArg (fun x => bt x i) hz
      simp only [bt_and, bt_cpl _ (show i < 32 by omega), bt_zero, h.V.nx r hr, h.V.nx o ho] at this
      exact this
    · intro hz
      refine bt_ext fun i hi => ?_
      simp only [bt_and, bt_cpl _ hi, bt_zero, h.V.nx r hr, h.V.nx o ho]
      by_cases h8 : i < 8
      · exact hz i h8
      · have : pNx p o i = false := by
          cases e : pNx p o i
          · rfl
          · have := (h.O.nx o i e).2
            omega
        simp [this]
  have e3 : iEq (b2i (pSm p r)) (b2i (pSm p o)) = (pSm p r == pSm p o) := by cases pSm p r <;> cases pSm p o <;> rfl
  apply wF_eq
  unfold f_X4_standsFor b_X4_standsFor
  simp (disch := omega) only [w_eK, w_eI, w_eL, w_eR, w_eT, w_b1, w_b2, w_b0, w_b0L, w_gI, w_gL, w_gN, w_gR, w_aI, w_aL, w_aR, w_aLen, w_tern, w_and, w_or, w_vN, vI, vJ, vA, vS, w_cFv, w_cFs, w_toI, w_toL, w_toV, w_nO, w_nA, eZ, cNot, s_skip, s_brk, s_cnt, s_retV, s_seq, s_if, s_set1, s_setL, s_inc, s_putI, s_putZ, s_putL, s_putR, s_upI, s_AI, s_AL, s_AR, s_UA, s_exp, s_ret, s_retZ, s_scope, s_unBrk, s_sw, s_sup, sSetI, sSetR, sRetI, sRetL, f_of, argE_n, argE_i, argE_r, argE_l, argE_a, sto_0, sto_s, sto_n0, sto_ns, isL_i, isL_r, isL_n, isL_a, isL_l, isL_0, rcv_r, rcv_a, List.getElem?_cons_zero, List.getElem?_cons_succ, List.getElem?_nil, List.set_cons_zero, List.set_cons_succ, List.take_succ_cons, List.take_zero, List.take_nil, List.length_cons, List.length_nil, List.nil_append, List.cons_append, Nat.reduceAdd, Nat.reduceSub, Nat.reduceLT, Nat.reduceEqDiff, Nat.reduceLeDiff, Nat.zero_add, Nat.lt_irrefl, Nat.succ_sub_one, and_true, true_and, and_false, false_and, not_false_eq_true, not_true_eq_false, Bool.false_eq_true, ↓reduceIte, if_true, if_false, decide_true, decide_false, decide_eq_true_eq, Option.some.injEq, and_self, Nat.add_one_sub_one, Nat.lt_add_one, Nat.zero_lt_succ, Value.int.injEq, Value.ref.injEq, Value.long.injEq, exists_eq_left', exists_eq_left, Sum.inl.injEq, Sum.inr.injEq, h.T.t, h.T.r10, h.T.r11, h.T.t5, h.T.t6, n_iEq, n_iNe, n_iLt, n_iLe, n_iGt, n_iGe, n_zEq, n_zLt, n_zLe, n_zGt, n_zGe, n_inb, n32_clamp, wF_of (q_isSeam h (show r < 32 by omega)), wF_of (q_isSeam h (show o < 32 by omega)), e1, e2, e3]
  simp only [show r < 8 by omega, show o < 8 by omega, w_eK, w_eI, w_eL, w_eR, w_eT, w_b1, w_b2, w_b0, w_b0L, w_gI, w_gL, w_gN, w_gR, w_aI, w_aL, w_aR, w_aLen, w_tern, w_and, w_or, w_vN, vI, vJ, vA, vS, w_cFv, w_cFs, w_toI, w_toL, w_toV, w_nO, w_nA, eZ, cNot, s_skip, s_brk, s_cnt, s_retV, s_seq, s_if, s_set1, s_setL, s_inc, s_putI, s_putZ, s_putL, s_putR, s_upI, s_AI, s_AL, s_AR, s_UA, s_exp, s_ret, s_retZ, s_scope, s_unBrk, s_sw, s_sup, sSetI, sSetR, sRetI, sRetL, f_of, argE_n, argE_i, argE_r, argE_l, argE_a, sto_0, sto_s, sto_n0, sto_ns, isL_i, isL_r, isL_n, isL_a, isL_l, isL_0, rcv_r, rcv_a, List.getElem?_cons_zero, List.getElem?_cons_succ, List.getElem?_nil, List.set_cons_zero, List.set_cons_succ, List.take_succ_cons, List.take_zero, List.take_nil, List.length_cons, List.length_nil, List.nil_append, List.cons_append, Nat.reduceAdd, Nat.reduceSub, Nat.reduceLT, Nat.reduceEqDiff, Nat.reduceLeDiff, Nat.zero_add, Nat.lt_irrefl, Nat.succ_sub_one, and_true, true_and, and_false, false_and, not_false_eq_true, not_true_eq_false, Bool.false_eq_true, ↓reduceIte, if_true, if_false, decide_true, decide_false, decide_eq_true_eq, Option.some.injEq, and_self, Nat.add_one_sub_one, Nat.lt_add_one, Nat.zero_lt_succ, Value.int.injEq, Value.ref.injEq, Value.long.injEq, exists_eq_left', exists_eq_left, Sum.inl.injEq, Sum.inr.injEq]
  by_cases hro : r = o
  · simp [hro, insteadB, okZ_b2i]
  · cases h1 : (pSm p r == pSm p o) <;> cases h2 : anyB 8 (fun i => pNx p i o && !pNx p i r) <;> cases h3 : anyB 8 (fun i => pNx p o i && !pNx p r i) <;> simp [hro, insteadB, okZ_b2i, h1, h2, h3]
theorem q_joins (h : PlanAt M P p) (x y : Int32) : f_X4_joins [.ref P, .int x, .int y] M = some (some (.int (b2i (jn p (bt x) (bt y)))), M) := by
  have hk := h.O.kinds
  apply wF_eq
  unfold f_X4_joins b_X4_joins
  simp only [w_eK, w_eI, w_eL, w_eR, w_eT, w_b1, w_b2, w_b0, w_b0L, w_gI, w_gL, w_gN, w_gR, w_aI, w_aL, w_aR, w_aLen, w_tern, w_and, w_or, w_vN, vI, vJ, vA, vS, w_cFv, w_cFs, w_toI, w_toL, w_toV, w_nO, w_nA, eZ, cNot, s_skip, s_brk, s_cnt, s_retV, s_seq, s_if, s_set1, s_setL, s_inc, s_putI, s_putZ, s_putL, s_putR, s_upI, s_AI, s_AL, s_AR, s_UA, s_exp, s_ret, s_retZ, s_scope, s_unBrk, s_sw, s_sup, sSetI, sSetR, sRetI, sRetL, f_of, argE_n, argE_i, argE_r, argE_l, argE_a, sto_0, sto_s, sto_n0, sto_ns, isL_i, isL_r, isL_n, isL_a, isL_l, isL_0, rcv_r, rcv_a, List.getElem?_cons_zero, List.getElem?_cons_succ, List.getElem?_nil, List.set_cons_zero, List.set_cons_succ, List.take_succ_cons, List.take_zero, List.take_nil, List.length_cons, List.length_nil, List.nil_append, List.cons_append, Nat.reduceAdd, Nat.reduceSub, Nat.reduceLT, Nat.reduceEqDiff, Nat.reduceLeDiff, Nat.zero_add, Nat.lt_irrefl, Nat.succ_sub_one, and_true, true_and, and_false, false_and, not_false_eq_true, not_true_eq_false, Bool.false_eq_true, ↓reduceIte, if_true, if_false, decide_true, decide_false, decide_eq_true_eq, Option.some.injEq, and_self, Nat.add_one_sub_one, Nat.lt_add_one, Nat.zero_lt_succ, Value.int.injEq, Value.ref.injEq, Value.long.injEq, exists_eq_left', exists_eq_left, Sum.inl.injEq, Sum.inr.injEq]
  refine s_up (fun j e m => e = [.ref P, .int x, .int y, .int (n32 j)] ∧ m = M ∧ ∀ r q, r < j → bt x r = true → bt y q = true → pNx p r q = false) (pK p) ⟨rfl, rfl, fun r q hr => by omega⟩ ?_ ?_
  · rintro j e m hj ⟨rfl, rfl, hI⟩
    simp (disch := omega) only [w_eK, w_eI, w_eL, w_eR, w_eT, w_b1, w_b2, w_b0, w_b0L, w_gI, w_gL, w_gN, w_gR, w_aI, w_aL, w_aR, w_aLen, w_tern, w_and, w_or, w_vN, vI, vJ, vA, vS, w_cFv, w_cFs, w_toI, w_toL, w_toV, w_nO, w_nA, eZ, cNot, s_skip, s_brk, s_cnt, s_retV, s_seq, s_if, s_set1, s_setL, s_inc, s_putI, s_putZ, s_putL, s_putR, s_upI, s_AI, s_AL, s_AR, s_UA, s_exp, s_ret, s_retZ, s_scope, s_unBrk, s_sw, s_sup, sSetI, sSetR, sRetI, sRetL, f_of, argE_n, argE_i, argE_r, argE_l, argE_a, sto_0, sto_s, sto_n0, sto_ns, isL_i, isL_r, isL_n, isL_a, isL_l, isL_0, rcv_r, rcv_a, List.getElem?_cons_zero, List.getElem?_cons_succ, List.getElem?_nil, List.set_cons_zero, List.set_cons_succ, List.take_succ_cons, List.take_zero, List.take_nil, List.length_cons, List.length_nil, List.nil_append, List.cons_append, Nat.reduceAdd, Nat.reduceSub, Nat.reduceLT, Nat.reduceEqDiff, Nat.reduceLeDiff, Nat.zero_add, Nat.lt_irrefl, Nat.succ_sub_one, and_true, true_and, and_false, false_and, not_false_eq_true, not_true_eq_false, Bool.false_eq_true, ↓reduceIte, if_true, if_false, decide_true, decide_false, decide_eq_true_eq, Option.some.injEq, and_self, Nat.add_one_sub_one, Nat.lt_add_one, Nat.zero_lt_succ, Value.int.injEq, Value.ref.injEq, Value.long.injEq, exists_eq_left', exists_eq_left, Sum.inl.injEq, Sum.inr.injEq, h.T.t, h.T.r10, h.T.t5, h.V.kinds, n_iEq, n_iNe, n_iLt, n_iLe, n_iGt, n_iGe, n_zEq, n_zLt, n_zLe, n_zGt, n_zGe, n_inb, n32_clamp, wF_of (q_hasBit _ (show j < 32 by omega) _), i2z_b2i, hj]
    cases ex : bt x j
    · simp only [w_eK, w_eI, w_eL, w_eR, w_eT, w_b1, w_b2, w_b0, w_b0L, w_gI, w_gL, w_gN, w_gR, w_aI, w_aL, w_aR, w_aLen, w_tern, w_and, w_or, w_vN, vI, vJ, vA, vS, w_cFv, w_cFs, w_toI, w_toL, w_toV, w_nO, w_nA, eZ, cNot, s_skip, s_brk, s_cnt, s_retV, s_seq, s_if, s_set1, s_setL, s_inc, s_putI, s_putZ, s_putL, s_putR, s_upI, s_AI, s_AL, s_AR, s_UA, s_exp, s_ret, s_retZ, s_scope, s_unBrk, s_sw, s_sup, sSetI, sSetR, sRetI, sRetL, f_of, argE_n, argE_i, argE_r, argE_l, argE_a, sto_0, sto_s, sto_n0, sto_ns, isL_i, isL_r, isL_n, isL_a, isL_l, isL_0, rcv_r, rcv_a, List.getElem?_cons_zero, List.getElem?_cons_succ, List.getElem?_nil, List.set_cons_zero, List.set_cons_succ, List.take_succ_cons, List.take_zero, List.take_nil, List.length_cons, List.length_nil, List.nil_append, List.cons_append, Nat.reduceAdd, Nat.reduceSub, Nat.reduceLT, Nat.reduceEqDiff, Nat.reduceLeDiff, Nat.zero_add, Nat.lt_irrefl, Nat.succ_sub_one, and_true, true_and, and_false, false_and, not_false_eq_true, not_true_eq_false, Bool.false_eq_true, ↓reduceIte, if_true, if_false, decide_true, decide_false, decide_eq_true_eq, Option.some.injEq, and_self, Nat.add_one_sub_one, Nat.lt_add_one, Nat.zero_lt_succ, Value.int.injEq, Value.ref.injEq, Value.long.injEq, exists_eq_left', exists_eq_left, Sum.inl.injEq, Sum.inr.injEq, n32_inc]
      intro r q hr h1 h2
      rcases Nat.lt_succ_iff_lt_or_eq.mp hr with h' | h'
      · exact hI r q h' h1 h2
      · subst h'; rw [ex] at h1; cases h1
    · simp only [w_eK, w_eI, w_eL, w_eR, w_eT, w_b1, w_b2, w_b0, w_b0L, w_gI, w_gL, w_gN, w_gR, w_aI, w_aL, w_aR, w_aLen, w_tern, w_and, w_or, w_vN, vI, vJ, vA, vS, w_cFv, w_cFs, w_toI, w_toL, w_toV, w_nO, w_nA, eZ, cNot, s_skip, s_brk, s_cnt, s_retV, s_seq, s_if, s_set1, s_setL, s_inc, s_putI, s_putZ, s_putL, s_putR, s_upI, s_AI, s_AL, s_AR, s_UA, s_exp, s_ret, s_retZ, s_scope, s_unBrk, s_sw, s_sup, sSetI, sSetR, sRetI, sRetL, f_of, argE_n, argE_i, argE_r, argE_l, argE_a, sto_0, sto_s, sto_n0, sto_ns, isL_i, isL_r, isL_n, isL_a, isL_l, isL_0, rcv_r, rcv_a, List.getElem?_cons_zero, List.getElem?_cons_succ, List.getElem?_nil, List.set_cons_zero, List.set_cons_succ, List.take_succ_cons, List.take_zero, List.take_nil, List.length_cons, List.length_nil, List.nil_append, List.cons_append, Nat.reduceAdd, Nat.reduceSub, Nat.reduceLT, Nat.reduceEqDiff, Nat.reduceLeDiff, Nat.zero_add, Nat.lt_irrefl, Nat.succ_sub_one, and_true, true_and, and_false, false_and, not_false_eq_true, not_true_eq_false, Bool.false_eq_true, ↓reduceIte, if_true, if_false, decide_true, decide_false, decide_eq_true_eq, Option.some.injEq, and_self, Nat.add_one_sub_one, Nat.lt_add_one, Nat.zero_lt_succ, Value.int.injEq, Value.ref.injEq, Value.long.injEq, exists_eq_left', exists_eq_left, Sum.inl.injEq, Sum.inr.injEq]
      refine ⟨by omega, ?_⟩
      by_cases e0 : vi m (P + 5) j &&& y = 0
      · have : i2z (vi m (P + 5) j &&& y) = false := by simp [i2z, e0]
        simp only [this, w_eK, w_eI, w_eL, w_eR, w_eT, w_b1, w_b2, w_b0, w_b0L, w_gI, w_gL, w_gN, w_gR, w_aI, w_aL, w_aR, w_aLen, w_tern, w_and, w_or, w_vN, vI, vJ, vA, vS, w_cFv, w_cFs, w_toI, w_toL, w_toV, w_nO, w_nA, eZ, cNot, s_skip, s_brk, s_cnt, s_retV, s_seq, s_if, s_set1, s_setL, s_inc, s_putI, s_putZ, s_putL, s_putR, s_upI, s_AI, s_AL, s_AR, s_UA, s_exp, s_ret, s_retZ, s_scope, s_unBrk, s_sw, s_sup, sSetI, sSetR, sRetI, sRetL, f_of, argE_n, argE_i, argE_r, argE_l, argE_a, sto_0, sto_s, sto_n0, sto_ns, isL_i, isL_r, isL_n, isL_a, isL_l, isL_0, rcv_r, rcv_a, List.getElem?_cons_zero, List.getElem?_cons_succ, List.getElem?_nil, List.set_cons_zero, List.set_cons_succ, List.take_succ_cons, List.take_zero, List.take_nil, List.length_cons, List.length_nil, List.nil_append, List.cons_append, Nat.reduceAdd, Nat.reduceSub, Nat.reduceLT, Nat.reduceEqDiff, Nat.reduceLeDiff, Nat.zero_add, Nat.lt_irrefl, Nat.succ_sub_one, and_true, true_and, and_false, false_and, not_false_eq_true, not_true_eq_false, Bool.false_eq_true, ↓reduceIte, if_true, if_false, decide_true, decide_false, decide_eq_true_eq, Option.some.injEq, and_self, Nat.add_one_sub_one, Nat.lt_add_one, Nat.zero_lt_succ, Value.int.injEq, Value.ref.injEq, Value.long.injEq, exists_eq_left', exists_eq_left, Sum.inl.injEq, Sum.inr.injEq, n32_inc]
        intro r q hr h1 h2
        rcases Nat.lt_succ_iff_lt_or_eq.mp hr with h' | h'
        · exact hI r q h' h1 h2
        · subst h'
          have := congrArg (fun x => bt x q) e0
          simp only [bt_and, h.V.nx r hj, h2, bt_zero, Bool.and_true] at this
          exact this
      · have : i2z (vi m (P + 5) j &&& y) = true := by simp [i2z, e0]
        simp only [this, w_eK, w_eI, w_eL, w_eR, w_eT, w_b1, w_b2, w_b0, w_b0L, w_gI, w_gL, w_gN, w_gR, w_aI, w_aL, w_aR, w_aLen, w_tern, w_and, w_or, w_vN, vI, vJ, vA, vS, w_cFv, w_cFs, w_toI, w_toL, w_toV, w_nO, w_nA, eZ, cNot, s_skip, s_brk, s_cnt, s_retV, s_seq, s_if, s_set1, s_setL, s_inc, s_putI, s_putZ, s_putL, s_putR, s_upI, s_AI, s_AL, s_AR, s_UA, s_exp, s_ret, s_retZ, s_scope, s_unBrk, s_sw, s_sup, sSetI, sSetR, sRetI, sRetL, f_of, argE_n, argE_i, argE_r, argE_l, argE_a, sto_0, sto_s, sto_n0, sto_ns, isL_i, isL_r, isL_n, isL_a, isL_l, isL_0, rcv_r, rcv_a, List.getElem?_cons_zero, List.getElem?_cons_succ, List.getElem?_nil, List.set_cons_zero, List.set_cons_succ, List.take_succ_cons, List.take_zero, List.take_nil, List.length_cons, List.length_nil, List.nil_append, List.cons_append, Nat.reduceAdd, Nat.reduceSub, Nat.reduceLT, Nat.reduceEqDiff, Nat.reduceLeDiff, Nat.zero_add, Nat.lt_irrefl, Nat.succ_sub_one, and_true, true_and, and_false, false_and, not_false_eq_true, not_true_eq_false, Bool.false_eq_true, ↓reduceIte, if_true, if_false, decide_true, decide_false, decide_eq_true_eq, Option.some.injEq, and_self, Nat.add_one_sub_one, Nat.lt_add_one, Nat.zero_lt_succ, Value.int.injEq, Value.ref.injEq, Value.long.injEq, exists_eq_left', exists_eq_left, Sum.inl.injEq, Sum.inr.injEq]
        refine ⟨rfl, ?_⟩
        obtain ⟨q, hq, hb⟩ := ne0_bt.mp e0
        simp only [bt_and, h.V.nx j hj, Bool.and_eq_true] at hb
        have hjn : jn p (bt x) (bt y) = true := (jn_true hk).mpr ⟨j, q, ex, hb.2, hb.1, h.O.nx j q hb.1⟩
        rw [hjn]; rfl
  · rintro e m ⟨rfl, rfl, hI⟩
    simp (disch := omega) only [w_eK, w_eI, w_eL, w_eR, w_eT, w_b1, w_b2, w_b0, w_b0L, w_gI, w_gL, w_gN, w_gR, w_aI, w_aL, w_aR, w_aLen, w_tern, w_and, w_or, w_vN, vI, vJ, vA, vS, w_cFv, w_cFs, w_toI, w_toL, w_toV, w_nO, w_nA, eZ, cNot, s_skip, s_brk, s_cnt, s_retV, s_seq, s_if, s_set1, s_setL, s_inc, s_putI, s_putZ, s_putL, s_putR, s_upI, s_AI, s_AL, s_AR, s_UA, s_exp, s_ret, s_retZ, s_scope, s_unBrk, s_sw, s_sup, sSetI, sSetR, sRetI, sRetL, f_of, argE_n, argE_i, argE_r, argE_l, argE_a, sto_0, sto_s, sto_n0, sto_ns, isL_i, isL_r, isL_n, isL_a, isL_l, isL_0, rcv_r, rcv_a, List.getElem?_cons_zero, List.getElem?_cons_succ, List.getElem?_nil, List.set_cons_zero, List.set_cons_succ, List.take_succ_cons, List.take_zero, List.take_nil, List.length_cons, List.length_nil, List.nil_append, List.cons_append, Nat.reduceAdd, Nat.reduceSub, Nat.reduceLT, Nat.reduceEqDiff, Nat.reduceLeDiff, Nat.zero_add, Nat.lt_irrefl, Nat.succ_sub_one, and_true, true_and, and_false, false_and, not_false_eq_true, not_true_eq_false, Bool.false_eq_true, ↓reduceIte, if_true, if_false, decide_true, decide_false, decide_eq_true_eq, Option.some.injEq, and_self, Nat.add_one_sub_one, Nat.lt_add_one, Nat.zero_lt_succ, Value.int.injEq, Value.ref.injEq, Value.long.injEq, exists_eq_left', exists_eq_left, Sum.inl.injEq, Sum.inr.injEq, h.T.t, h.V.kinds, n_iEq, n_iNe, n_iLt, n_iLe, n_iGt, n_iGe, n_zEq, n_zLt, n_zLe, n_zGt, n_zGe, n_inb, n32_clamp]
    have hjn : jn p (bt x) (bt y) = false := by
      cases e : jn p (bt x) (bt y)
      · rfl
      · obtain ⟨r, q, h1, h2, h3, h4, h5⟩ := (jn_true hk).mp e
        rw [hI r q h4 h1 h2] at h3; cases h3
    rw [hjn]
    exact ⟨rfl, rfl⟩
/-- beyond so many rows a side alone is too long -/
theorem q_mostRows (h : PlanAt M P p) {s : Nat} (hs : s < 2) : ∃ n, f_X4_mostRows [.ref P, .int (n32 s)] M = some (some (.int (n32 n)), M) ∧ n ≤ 24 ∧ (n < 24 → pLen p + pSl p < (n + 1) * pH p s) := by
  have h1 := h.O.len
  have h2 := h.O.sl
  have h3 := h.O.hand s hs
  have hh : vi M (P + 1) s = n32 (pH p s) := by
    match s, hs with
    | 0, _ => exact h.V.h0
    | 1, _ => exact h.V.h1
  have key : wF f_X4_mostRows [.ref P, .int (n32 s)] M (fun v m => ∃ n, v = some (.int (n32 n)) ∧ m = M ∧ n ≤ 24 ∧ (n < 24 → pLen p + pSl p < (n + 1) * pH p s)) := by
    unfold f_X4_mostRows b_X4_mostRows
    simp only [w_eK, w_eI, w_eL, w_eR, w_eT, w_b1, w_b2, w_b0, w_b0L, w_gI, w_gL, w_gN, w_gR, w_aI, w_aL, w_aR, w_aLen, w_tern, w_and, w_or, w_vN, vI, vJ, vA, vS, w_cFv, w_cFs, w_toI, w_toL, w_toV, w_nO, w_nA, eZ, cNot, s_skip, s_brk, s_cnt, s_retV, s_seq, s_if, s_set1, s_setL, s_inc, s_putI, s_putZ, s_putL, s_putR, s_upI, s_AI, s_AL, s_AR, s_UA, s_exp, s_ret, s_retZ, s_scope, s_unBrk, s_sw, s_sup, sSetI, sSetR, sRetI, sRetL, f_of, argE_n, argE_i, argE_r, argE_l, argE_a, sto_0, sto_s, sto_n0, sto_ns, isL_i, isL_r, isL_n, isL_a, isL_l, isL_0, rcv_r, rcv_a, List.getElem?_cons_zero, List.getElem?_cons_succ, List.getElem?_nil, List.set_cons_zero, List.set_cons_succ, List.take_succ_cons, List.take_zero, List.take_nil, List.length_cons, List.length_nil, List.nil_append, List.cons_append, Nat.reduceAdd, Nat.reduceSub, Nat.reduceLT, Nat.reduceEqDiff, Nat.reduceLeDiff, Nat.zero_add, Nat.lt_irrefl, Nat.succ_sub_one, and_true, true_and, and_false, false_and, not_false_eq_true, not_true_eq_false, Bool.false_eq_true, ↓reduceIte, if_true, if_false, decide_true, decide_false, decide_eq_true_eq, Option.some.injEq, and_self, Nat.add_one_sub_one, Nat.lt_add_one, Nat.zero_lt_succ, Value.int.injEq, Value.ref.injEq, Value.long.injEq, exists_eq_left', exists_eq_left, Sum.inl.injEq, Sum.inr.injEq]
    refine s_loop (fun k e m => ∃ j, j + k = 24 ∧ e = [.ref P, .int (n32 s), .int (n32 j)] ∧ m = M) 24 ⟨0, by omega, rfl, rfl⟩ ?_
    rintro k e m ⟨j, hj, rfl, rfl⟩
    have hm : (j + 1) * pH p s < 2147483648 := Nat.lt_of_le_of_lt (Nat.mul_le_mul (show j + 1 ≤ 25 by omega) h3) (by decide)
    simp (disch := omega) only [w_eK, w_eI, w_eL, w_eR, w_eT, w_b1, w_b2, w_b0, w_b0L, w_gI, w_gL, w_gN, w_gR, w_aI, w_aL, w_aR, w_aLen, w_tern, w_and, w_or, w_vN, vI, vJ, vA, vS, w_cFv, w_cFs, w_toI, w_toL, w_toV, w_nO, w_nA, eZ, cNot, s_skip, s_brk, s_cnt, s_retV, s_seq, s_if, s_set1, s_setL, s_inc, s_putI, s_putZ, s_putL, s_putR, s_upI, s_AI, s_AL, s_AR, s_UA, s_exp, s_ret, s_retZ, s_scope, s_unBrk, s_sw, s_sup, sSetI, sSetR, sRetI, sRetL, f_of, argE_n, argE_i, argE_r, argE_l, argE_a, sto_0, sto_s, sto_n0, sto_ns, isL_i, isL_r, isL_n, isL_a, isL_l, isL_0, rcv_r, rcv_a, List.getElem?_cons_zero, List.getElem?_cons_succ, List.getElem?_nil, List.set_cons_zero, List.set_cons_succ, List.take_succ_cons, List.take_zero, List.take_nil, List.length_cons, List.length_nil, List.nil_append, List.cons_append, Nat.reduceAdd, Nat.reduceSub, Nat.reduceLT, Nat.reduceEqDiff, Nat.reduceLeDiff, Nat.zero_add, Nat.lt_irrefl, Nat.succ_sub_one, and_true, true_and, and_false, false_and, not_false_eq_true, not_true_eq_false, Bool.false_eq_true, ↓reduceIte, if_true, if_false, decide_true, decide_false, decide_eq_true_eq, Option.some.injEq, and_self, Nat.add_one_sub_one, Nat.lt_add_one, Nat.zero_lt_succ, Value.int.injEq, Value.ref.injEq, Value.long.injEq, exists_eq_left', exists_eq_left, Sum.inl.injEq, Sum.inr.injEq, h.T.t, h.T.r3, h.T.t1, hh, h.V.len, h.V.sl, l_0, l_1, l_2, l_3, l_4, l_5, l_6, l_7, l_8, l_9, l_10, l_12, l_20, l_23, l_24, l_25, l_32, l_48, l_60, l_100, l_200, l_255, l_900, n32_add, n32_mul, n32_inc, n_iEq, n_iNe, n_iLt, n_iLe, n_iGt, n_iGe, n_zEq, n_zLt, n_zLe, n_zGt, n_zGe, n_inb, n32_clamp]
    by_cases e1 : j < 24
    · simp only [e1, w_eK, w_eI, w_eL, w_eR, w_eT, w_b1, w_b2, w_b0, w_b0L, w_gI, w_gL, w_gN, w_gR, w_aI, w_aL, w_aR, w_aLen, w_tern, w_and, w_or, w_vN, vI, vJ, vA, vS, w_cFv, w_cFs, w_toI, w_toL, w_toV, w_nO, w_nA, eZ, cNot, s_skip, s_brk, s_cnt, s_retV, s_seq, s_if, s_set1, s_setL, s_inc, s_putI, s_putZ, s_putL, s_putR, s_upI, s_AI, s_AL, s_AR, s_UA, s_exp, s_ret, s_retZ, s_scope, s_unBrk, s_sw, s_sup, sSetI, sSetR, sRetI, sRetL, f_of, argE_n, argE_i, argE_r, argE_l, argE_a, sto_0, sto_s, sto_n0, sto_ns, isL_i, isL_r, isL_n, isL_a, isL_l, isL_0, rcv_r, rcv_a, List.getElem?_cons_zero, List.getElem?_cons_succ, List.getElem?_nil, List.set_cons_zero, List.set_cons_succ, List.take_succ_cons, List.take_zero, List.take_nil, List.length_cons, List.length_nil, List.nil_append, List.cons_append, Nat.reduceAdd, Nat.reduceSub, Nat.reduceLT, Nat.reduceEqDiff, Nat.reduceLeDiff, Nat.zero_add, Nat.lt_irrefl, Nat.succ_sub_one, and_true, true_and, and_false, false_and, not_false_eq_true, not_true_eq_false, Bool.false_eq_true, ↓reduceIte, if_true, if_false, decide_true, decide_false, decide_eq_true_eq, Option.some.injEq, and_self, Nat.add_one_sub_one, Nat.lt_add_one, Nat.zero_lt_succ, Value.int.injEq, Value.ref.injEq, Value.long.injEq, exists_eq_left', exists_eq_left, Sum.inl.injEq, Sum.inr.injEq, hs]
      by_cases e2 : (j + 1) * pH p s ≤ pLen p + pSl p
      · simp only [e2, w_eK, w_eI, w_eL, w_eR, w_eT, w_b1, w_b2, w_b0, w_b0L, w_gI, w_gL, w_gN, w_gR, w_aI, w_aL, w_aR, w_aLen, w_tern, w_and, w_or, w_vN, vI, vJ, vA, vS, w_cFv, w_cFs, w_toI, w_toL, w_toV, w_nO, w_nA, eZ, cNot, s_skip, s_brk, s_cnt, s_retV, s_seq, s_if, s_set1, s_setL, s_inc, s_putI, s_putZ, s_putL, s_putR, s_upI, s_AI, s_AL, s_AR, s_UA, s_exp, s_ret, s_retZ, s_scope, s_unBrk, s_sw, s_sup, sSetI, sSetR, sRetI, sRetL, f_of, argE_n, argE_i, argE_r, argE_l, argE_a, sto_0, sto_s, sto_n0, sto_ns, isL_i, isL_r, isL_n, isL_a, isL_l, isL_0, rcv_r, rcv_a, List.getElem?_cons_zero, List.getElem?_cons_succ, List.getElem?_nil, List.set_cons_zero, List.set_cons_succ, List.take_succ_cons, List.take_zero, List.take_nil, List.length_cons, List.length_nil, List.nil_append, List.cons_append, Nat.reduceAdd, Nat.reduceSub, Nat.reduceLT, Nat.reduceEqDiff, Nat.reduceLeDiff, Nat.zero_add, Nat.lt_irrefl, Nat.succ_sub_one, and_true, true_and, and_false, false_and, not_false_eq_true, not_true_eq_false, Bool.false_eq_true, ↓reduceIte, if_true, if_false, decide_true, decide_false, decide_eq_true_eq, Option.some.injEq, and_self, Nat.add_one_sub_one, Nat.lt_add_one, Nat.zero_lt_succ, Value.int.injEq, Value.ref.injEq, Value.long.injEq, exists_eq_left', exists_eq_left, Sum.inl.injEq, Sum.inr.injEq, n32_inc]
        exact ⟨k - 1, by omega, j + 1, by omega, rfl⟩
      · simp only [e2, w_eK, w_eI, w_eL, w_eR, w_eT, w_b1, w_b2, w_b0, w_b0L, w_gI, w_gL, w_gN, w_gR, w_aI, w_aL, w_aR, w_aLen, w_tern, w_and, w_or, w_vN, vI, vJ, vA, vS, w_cFv, w_cFs, w_toI, w_toL, w_toV, w_nO, w_nA, eZ, cNot, s_skip, s_brk, s_cnt, s_retV, s_seq, s_if, s_set1, s_setL, s_inc, s_putI, s_putZ, s_putL, s_putR, s_upI, s_AI, s_AL, s_AR, s_UA, s_exp, s_ret, s_retZ, s_scope, s_unBrk, s_sw, s_sup, sSetI, sSetR, sRetI, sRetL, f_of, argE_n, argE_i, argE_r, argE_l, argE_a, sto_0, sto_s, sto_n0, sto_ns, isL_i, isL_r, isL_n, isL_a, isL_l, isL_0, rcv_r, rcv_a, List.getElem?_cons_zero, List.getElem?_cons_succ, List.getElem?_nil, List.set_cons_zero, List.set_cons_succ, List.take_succ_cons, List.take_zero, List.take_nil, List.length_cons, List.length_nil, List.nil_append, List.cons_append, Nat.reduceAdd, Nat.reduceSub, Nat.reduceLT, Nat.reduceEqDiff, Nat.reduceLeDiff, Nat.zero_add, Nat.lt_irrefl, Nat.succ_sub_one, and_true, true_and, and_false, false_and, not_false_eq_true, not_true_eq_false, Bool.false_eq_true, ↓reduceIte, if_true, if_false, decide_true, decide_false, decide_eq_true_eq, Option.some.injEq, and_self, Nat.add_one_sub_one, Nat.lt_add_one, Nat.zero_lt_succ, Value.int.injEq, Value.ref.injEq, Value.long.injEq, exists_eq_left', exists_eq_left, Sum.inl.injEq, Sum.inr.injEq]
        exact ⟨j, rfl, by omega, fun _ => by omega⟩
    · simp only [e1, w_eK, w_eI, w_eL, w_eR, w_eT, w_b1, w_b2, w_b0, w_b0L, w_gI, w_gL, w_gN, w_gR, w_aI, w_aL, w_aR, w_aLen, w_tern, w_and, w_or, w_vN, vI, vJ, vA, vS, w_cFv, w_cFs, w_toI, w_toL, w_toV, w_nO, w_nA, eZ, cNot, s_skip, s_brk, s_cnt, s_retV, s_seq, s_if, s_set1, s_setL, s_inc, s_putI, s_putZ, s_putL, s_putR, s_upI, s_AI, s_AL, s_AR, s_UA, s_exp, s_ret, s_retZ, s_scope, s_unBrk, s_sw, s_sup, sSetI, sSetR, sRetI, sRetL, f_of, argE_n, argE_i, argE_r, argE_l, argE_a, sto_0, sto_s, sto_n0, sto_ns, isL_i, isL_r, isL_n, isL_a, isL_l, isL_0, rcv_r, rcv_a, List.getElem?_cons_zero, List.getElem?_cons_succ, List.getElem?_nil, List.set_cons_zero, List.set_cons_succ, List.take_succ_cons, List.take_zero, List.take_nil, List.length_cons, List.length_nil, List.nil_append, List.cons_append, Nat.reduceAdd, Nat.reduceSub, Nat.reduceLT, Nat.reduceEqDiff, Nat.reduceLeDiff, Nat.zero_add, Nat.lt_irrefl, Nat.succ_sub_one, and_true, true_and, and_false, false_and, not_false_eq_true, not_true_eq_false, Bool.false_eq_true, ↓reduceIte, if_true, if_false, decide_true, decide_false, decide_eq_true_eq, Option.some.injEq, and_self, Nat.add_one_sub_one, Nat.lt_add_one, Nat.zero_lt_succ, Value.int.injEq, Value.ref.injEq, Value.long.injEq, exists_eq_left', exists_eq_left, Sum.inl.injEq, Sum.inr.injEq]
      exact ⟨j, rfl, by omega, fun h => absurd h e1⟩
  obtain ⟨v, m, h1, n, rfl, rfl, h2⟩ := key
  exact ⟨n, h1, h2⟩
theorem q_mayFit (h : PlanAt M P p) {n : Nat} (hn : n < 1000) : ∃ b, f_X4_mayFit [.ref P, .int (n32 n)] M = some (some (.int (b2i b)), M) ∧ (b = false → ∀ l r, l + r = n → ¬ (pLen p ≤ l * pH p 0 + r * pH p 1 ∧ l * pH p 0 + r * pH p 1 ≤ pLen p + pSl p)) := by
  have h1 := h.O.len
  have h2 := h.O.sl
  have h3 := h.O.hand 0 (by decide)
  have h4 := h.O.hand 1 (by decide)
  have eM : mMax (n32 (pH p 0)) (n32 (pH p 1)) = n32 (max (pH p 0) (pH p 1)) := by
    unfold mMax
    rw [Nat.max_def]
    by_cases e : pH p 0 < pH p 1
    · rw [if_pos ((n32_lt (by omega) (by omega)).mpr e), if_pos (by omega)]
    · rw [if_neg (fun z => e ((n32_lt (by omega) (by omega)).mp z))]
      by_cases e' : pH p 0 ≤ pH p 1
      · rw [if_pos e']; congr 1; omega
      · rw [if_neg e']
  have em : mMin (n32 (pH p 0)) (n32 (pH p 1)) = n32 (min (pH p 0) (pH p 1)) := by
    unfold mMin
    rw [Nat.min_def]
    by_cases e : pH p 1 < pH p 0
    · rw [if_pos ((n32_lt (by omega) (by omega)).mpr e), if_neg (by omega)]
    · rw [if_neg (fun z => e ((n32_lt (by omega) (by omega)).mp z)), if_pos (by omega)]
  have b1 : n * max (pH p 0) (pH p 1) < 2147483648 := Nat.lt_of_le_of_lt (Nat.mul_le_mul (show n ≤ 1000 by omega) (show max (pH p 0) (pH p 1) ≤ 9 by omega)) (by decide)
  have b2 : n * min (pH p 0) (pH p 1) < 2147483648 := Nat.lt_of_le_of_lt (Nat.mul_le_mul (show n ≤ 1000 by omega) (show min (pH p 0) (pH p 1) ≤ 9 by omega)) (by decide)
  refine ⟨decide (pLen p ≤ n * max (pH p 0) (pH p 1) ∧ n * min (pH p 0) (pH p 1) ≤ pLen p + pSl p), ?_, ?_⟩
  · apply wF_eq
    unfold f_X4_mayFit b_X4_mayFit
    simp (disch := omega) only [w_eK, w_eI, w_eL, w_eR, w_eT, w_b1, w_b2, w_b0, w_b0L, w_gI, w_gL, w_gN, w_gR, w_aI, w_aL, w_aR, w_aLen, w_tern, w_and, w_or, w_vN, vI, vJ, vA, vS, w_cFv, w_cFs, w_toI, w_toL, w_toV, w_nO, w_nA, eZ, cNot, s_skip, s_brk, s_cnt, s_retV, s_seq, s_if, s_set1, s_setL, s_inc, s_putI, s_putZ, s_putL, s_putR, s_upI, s_AI, s_AL, s_AR, s_UA, s_exp, s_ret, s_retZ, s_scope, s_unBrk, s_sw, s_sup, sSetI, sSetR, sRetI, sRetL, f_of, argE_n, argE_i, argE_r, argE_l, argE_a, sto_0, sto_s, sto_n0, sto_ns, isL_i, isL_r, isL_n, isL_a, isL_l, isL_0, rcv_r, rcv_a, List.getElem?_cons_zero, List.getElem?_cons_succ, List.getElem?_nil, List.set_cons_zero, List.set_cons_succ, List.take_succ_cons, List.take_zero, List.take_nil, List.length_cons, List.length_nil, List.nil_append, List.cons_append, Nat.reduceAdd, Nat.reduceSub, Nat.reduceLT, Nat.reduceEqDiff, Nat.reduceLeDiff, Nat.zero_add, Nat.lt_irrefl, Nat.succ_sub_one, and_true, true_and, and_false, false_and, not_false_eq_true, not_true_eq_false, Bool.false_eq_true, ↓reduceIte, if_true, if_false, decide_true, decide_false, decide_eq_true_eq, Option.some.injEq, and_self, Nat.add_one_sub_one, Nat.lt_add_one, Nat.zero_lt_succ, Value.int.injEq, Value.ref.injEq, Value.long.injEq, exists_eq_left', exists_eq_left, Sum.inl.injEq, Sum.inr.injEq, h.T.t, h.T.r3, h.T.t1, h.V.h0, h.V.h1, eM, em, h.V.len, h.V.sl, l_0, l_1, l_2, l_3, l_4, l_5, l_6, l_7, l_8, l_9, l_10, l_12, l_20, l_23, l_24, l_25, l_32, l_48, l_60, l_100, l_200, l_255, l_900, n32_add, n32_mul, n32_inc, n_iEq, n_iNe, n_iLt, n_iLe, n_iGt, n_iGe, n_zEq, n_zLt, n_zLe, n_zGt, n_zGe, n_inb, n32_clamp]
    by_cases e1 : pLen p ≤ n * max (pH p 0) (pH p 1) <;> by_cases e2 : n * min (pH p 0) (pH p 1) ≤ pLen p + pSl p <;> simp [e1, e2, okZ_b2i]
  · intro hb l r hlr hn'
    have hb := of_decide_eq_false hb
    refine hb ⟨Nat.le_trans hn'.1 ?_, Nat.le_trans ?_ hn'.2⟩
    · rw [← hlr, Nat.add_mul]
      exact Nat.add_le_add (Nat.mul_le_mul (Nat.le_refl _) (by omega)) (Nat.mul_le_mul (Nat.le_refl _) (by omega))
    · rw [← hlr, Nat.add_mul]
      exact Nat.add_le_add (Nat.mul_le_mul (Nat.le_refl _) (by omega)) (Nat.mul_le_mul (Nat.le_refl _) (by omega))
end
