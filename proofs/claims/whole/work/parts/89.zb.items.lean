/-! CONSTRUCTORS: what they leave, counted from the first new cell -/
def Rl (B : Nat) (M : qM) (m : qM) (S : qM) : Prop := (mN m = B + mN S) ∧ (mU m = mU M + mU S) ∧ (∀ a, a < mN S → tg m (B + a) = tg S a) ∧ (∀ a, a < mN S → ∀ j, vi m (B + a) j = vi S a j) ∧ (∀ a, a < mN S → ∀ j, vr m (B + a) j = (vr S a j).map (fun b => B + b)) ∧ (∀ a, a < B → tg m a = tg M a ∧ (∀ j, vi m a j = vi M a j) ∧ (∀ j, vl m a j = vl M a j) ∧ ∀ j, vr m a j = vr M a j)
theorem Rl.n {B : Nat} {M : qM} {m : qM} {S : qM} (h : Rl B M m S) : mN m = B + mN S := h.1
theorem Rl.u {B : Nat} {M : qM} {m : qM} {S : qM} (h : Rl B M m S) : mU m = mU M + mU S := h.2.1
theorem Rl.t {B : Nat} {M : qM} {m : qM} {S : qM} (h : Rl B M m S) : ∀ a, a < mN S → tg m (B + a) = tg S a := h.2.2.1
theorem Rl.i {B : Nat} {M : qM} {m : qM} {S : qM} (h : Rl B M m S) : ∀ a, a < mN S → ∀ j, vi m (B + a) j = vi S a j := h.2.2.2.1
theorem Rl.r {B : Nat} {M : qM} {m : qM} {S : qM} (h : Rl B M m S) : ∀ a, a < mN S → ∀ j, vr m (B + a) j = (vr S a j).map (fun b => B + b) := h.2.2.2.2.1
theorem Rl.o {B : Nat} {M : qM} {m : qM} {S : qM} (h : Rl B M m S) : ∀ a, a < B → tg m a = tg M a ∧ (∀ j, vi m a j = vi M a j) ∧ (∀ j, vl m a j = vl M a j) ∧ ∀ j, vr m a j = vr M a j := h.2.2.2.2.2
section
variable {B : Nat} {M m S : qM} {c t len j o : Nat}
theorem Rl.mk (h : Rl B M m S) (t len : Nat) : Rl B M (mk1 m t len) (mk1 S t len) := by
  have n := h.n
  have u := h.u
  refine ⟨by rw [mN_mk1, mN_mk1]; omega, by rw [mU_mk1, mU_mk1]; omega, fun a ha => ?_, fun a ha j => ?_, fun a ha j => ?_, fun a ha => ?_⟩
  · rw [mN_mk1] at ha
    rw [tg_mk1, tg_mk1]
    by_cases e : a = mN S
    · rw [if_pos e, if_pos (by omega)]
    · rw [if_neg e, if_neg (by omega)]; exact h.t a (by omega)
  · rw [mN_mk1] at ha
    rw [vi_mk1, vi_mk1]
    by_cases e : a = mN S
    · rw [if_pos e, if_pos (by omega)]
    · rw [if_neg e, if_neg (by omega)]; exact h.i a (by omega) j
  · rw [mN_mk1] at ha
    rw [vr_mk1, vr_mk1]
    by_cases e : a = mN S
    · rw [if_pos e, if_pos (by omega)]; rfl
    · rw [if_neg e, if_neg (by omega)]; exact h.r a (by omega) j
  · obtain ⟨o1, o2, o3, o4⟩ := h.o a ha
    refine ⟨by rw [tg_mk1, if_neg (by omega)]; exact o1, fun j => by rw [vi_mk1, if_neg (by omega)]; exact o2 j, fun j => by rw [vl_mk1, if_neg (by omega)]; exact o3 j, fun j => by rw [vr_mk1, if_neg (by omega)]; exact o4 j⟩
theorem Rl.pR (h : Rl B M m S) (c j b : Nat) : Rl B M (pR m (B + c) j (some (B + b))) (pR S c j (some b)) := by
  refine ⟨h.n, h.u, h.t, h.i, fun a ha k => ?_, fun a ha => ?_⟩
  · rw [vr_pR, vr_pR]
    by_cases e : a = c ∧ k = j
    · rw [if_pos e, if_pos (by omega)]; rfl
    · rw [if_neg e, if_neg (by omega)]; exact h.r a ha k
  · obtain ⟨o1, o2, o3, o4⟩ := h.o a ha
    exact ⟨o1, o2, o3, fun k => by rw [vr_pR, if_neg (by omega)]; exact o4 k⟩
theorem Rl.pI (h : Rl B M m S) (c j : Nat) (x : Int32) : Rl B M (pI m (B + c) j x) (pI S c j x) := by
  refine ⟨h.n, h.u, h.t, fun a ha k => ?_, h.r, fun a ha => ?_⟩
  · rw [vi_pI, vi_pI]
    by_cases e : a = c ∧ k = j
    · rw [if_pos e, if_pos (by omega)]
    · rw [if_neg e, if_neg (by omega)]; exact h.i a ha k
  · obtain ⟨o1, o2, o3, o4⟩ := h.o a ha
    exact ⟨o1, fun k => by rw [vi_pI, if_neg (by omega)]; exact o2 k, o3, o4⟩
theorem Rl.pL (h : Rl B M m S) (c j : Nat) (x : Int64) : Rl B M (pL m (B + c) j x) S := by
  refine ⟨h.n, h.u, h.t, h.i, h.r, fun a ha => ?_⟩
  obtain ⟨o1, o2, o3, o4⟩ := h.o a ha
  exact ⟨o1, o2, fun k => by rw [vl_pL, if_neg (by omega)]; exact o3 k, o4⟩
/-- a step of a constructor: a statement, and what it makes of what is counted from the first new cell -/
abbrev It : Type := Sv × (Nat → qM → qM)
def ItOK (o : Nat) (x : It) : Prop := ∀ (B : Nat) (M m S : qM) (c : Nat) (e : qE), e[0]? = some (.ref (B + c)) → Rl B M m S → (tg S c).1 = o → c < mN S → ∃ m', (∀ (Q : Re → qE → qM → Prop), hS x.1 e m Q () = Q (.inl 0) e m') ∧ Rl B M m' (x.2 c S) ∧ mN S ≤ mN (x.2 c S) ∧ ∀ a, a < mN S → tg (x.2 c S) a = tg S a
def CSp (F : Fn) (t n : Nat) (g : Nat → qM → qM) : Prop := ∀ (B : Nat) (M m S : qM) (c : Nat), Rl B M m S → tg S c = (t, n) → c < mN S → ∃ m', F [.ref (B + c)] m = some (none, m') ∧ Rl B M m' (g c S) ∧ mN S ≤ mN (g c S) ∧ ∀ a, a < mN S → tg (g c S) a = tg S a
noncomputable def iA (o t len j : Nat) : It := (sPutR o j (eR 0) (nA t (eK (n32 len))), fun c S => nwR c S t len j)
noncomputable def iI (o j : Nat) (x : Int32) : It := (sPutI o j (eR 0) (eK x), fun c S => pI S c j x)
noncomputable def iZ (o j : Nat) (x : Int32) : It := (sPutZ o j (eR 0) (eK x), fun c S => pI S c j x)
noncomputable def iJ (o j : Nat) (x : Int64) : It := (sPutL o j (eR 0) (eK x), fun c S => S)
noncomputable def iO (o j t n : Nat) (F : Fn) (g : Nat → qM → qM) : It := (sPutR o j (eR 0) (nO t n F), fun c S => pR (g (mN S) (mk1 S t n)) c j (some (mN S)))
theorem iA_ok (h : len ≤ 65536) : ItOK o (iA o t len j) := by
  intro B M m S c e h0 R ht hc
  have n := R.n
  refine ⟨nwR (B + c) m t len j, fun Q => h_new () h0 rfl h (by rw [R.t c hc]; exact ht) (by omega), ?_, ?_, fun a ha => ?_⟩
  · show Rl B M (_root_.id (nwR (B + c) m t len j)) (nwR c S t len j)
    unfold nwR
    rw [n]
    exact (R.mk t len).pR c j (mN S)
  · show mN S ≤ mN S + 1; omega
  · show tg (nwR c S t len j) a = _
    rw [tg_nwR, if_neg (by omega)]
theorem iI_ok {x : Int32} : ItOK o (iI o j x) := by
  intro B M m S c e h0 R ht hc
  refine ⟨pI m (B + c) j x, fun Q => ?_, R.pI c j x, Nat.le_refl _, fun a ha => rfl⟩
  show hS (sPutI o j (eR 0) (eK x)) e m Q () = _
  simp only [g_putI, h_eR, h0, hVR_s, h_eK, hR_d, R.t c hc, ht, true_and, hT_d]
theorem iZ_ok {x : Int32} (hx : okZ x = true) : ItOK o (iZ o j x) := by
  intro B M m S c e h0 R ht hc
  refine ⟨pI m (B + c) j x, fun Q => ?_, R.pI c j x, Nat.le_refl _, fun a ha => rfl⟩
  show hS (sPutZ o j (eR 0) (eK x)) e m Q () = _
  simp only [g_putZ, h_eR, h0, hVR_s, h_eK, hR_d, R.t c hc, ht, hx, true_and, hT_d]
theorem iJ_ok {x : Int64} : ItOK o (iJ o j x) := by
  intro B M m S c e h0 R ht hc
  refine ⟨pL m (B + c) j x, fun Q => ?_, R.pL c j x, Nat.le_refl _, fun a ha => rfl⟩
  show hS (sPutL o j (eR 0) (eK x)) e m Q () = _
  simp only [g_putL, h_eR, h0, hVR_s, h_eK, hR_d, R.t c hc, ht, true_and, hT_d]
theorem iO_ok {F : Fn} {g : Nat → qM → qM} {n : Nat} (h : CSp F t n g) : ItOK o (iO o j t n F g) := by
  intro B M m S c e h0 R ht hc
  have nn := R.n
  obtain ⟨m1, e1, R1, n1, t1⟩ := h B M (mk1 m t n) (mk1 S t n) (mN S) (R.mk t n) (by rw [tg_mk1, if_pos rfl]) (by rw [mN_mk1]; omega)
  rw [mN_mk1] at n1 t1
  have t2 : tg m1 (B + c) = tg S c := by rw [R1.t c (by omega), t1 c (by omega), tg_mk1, if_neg (by omega)]
  refine ⟨pR m1 (B + c) j (some (B + mN S)), fun Q => ?_, R1.pR c j (mN S), ?_, fun a ha => ?_⟩
  · show hS (sPutR o j (eR 0) (nO t n F)) e m Q () = _
    simp only [g_putR, h_eR, h0, hVR_s, h_nO, nn, h_of e1, hR_d, t2, ht, true_and, hT_d]
  · show mN S ≤ mN (g (mN S) (mk1 S t n)); omega
  · show tg (g (mN S) (mk1 S t n)) a = _
    rw [t1 a (by omega), tg_mk1, if_neg (by omega)]
noncomputable def itC (r : Sv) : List It → Sv
  | [] => r
  | x :: l => sSeq x.1 (itC r l)
def itR (c : Nat) : List It → qM → qM
  | [], S => S
  | x :: l, S => itR c l (x.2 c S)
def itA (o : Nat) : List It → Prop
  | [] => True
  | x :: l => ItOK o x ∧ itA o l
theorem h_it {r : Sv} {e : qE} (h0 : e[0]? = some (.ref (B + c))) : ∀ (l : List It) (m S : qM), itA o l → Rl B M m S → (tg S c).1 = o → c < mN S → ∃ m', (∀ (Q : Re → qE → qM → Prop), hS (itC r l) e m Q () = hS r e m' Q ()) ∧ Rl B M m' (itR c l S) ∧ mN S ≤ mN (itR c l S) ∧ ∀ a, a < mN S → tg (itR c l S) a = tg S a
  | [], m, S, _, R, _, _ => ⟨m, fun _ => rfl, R, Nat.le_refl _, fun _ _ => rfl⟩
  | x :: l, m, S, ha, R, ht, hc => by
    obtain ⟨m1, e1, R1, n1, t1⟩ := ha.1 B M m S c e h0 R ht hc
    obtain ⟨m2, e2, R2, n2, t2⟩ := h_it h0 l m1 (x.2 c S) ha.2 R1 (by rw [t1 c hc]; exact ht) (by omega)
    refine ⟨m2, fun Q => ?_, R2, Nat.le_trans n1 n2, fun a ha => (t2 a (by omega)).trans (t1 a ha)⟩
    show hS (sSeq x.1 (itC r l)) e m Q () = _
    rw [g_seq, e1, hB_0]
    exact e2 Q
theorem csp_of {b : Sv} {n : Nat} {l : List It} (h : b = sSeq sSup (itC sRetV l)) (ha : itA t l) : CSp (fnOf 1 b) t n (fun c S => itR c l S) := by
  intro B M m S c R ht hc
  obtain ⟨m1, e1, R1, n1, t1⟩ := h_it (B := B) (M := M) (c := c) (r := sRetV) (e := [.ref (B + c)]) rfl l m S ha R (by rw [ht]) hc
  refine ⟨m1, ?_, R1, n1, t1⟩
  apply h_eq
  rw [h]
  simp only [h_fn, argE_n, argE_r, List.length_cons, List.length_nil, Nat.zero_add, true_and, g_seq, g_sup, hB_0, e1, g_retV, hX_r, and_self]
end
