/-! HELD EVALUATION: what comes later stands in an argument that simp doesn't enter (the type of the last argument names it) -/
abbrev Hd {α : Type} (_ : α) : Type := Unit
def hE {α : Type} (f : Ev α) (env : qE) (M : qM) (Q : α → qM → Prop) (_ : Hd (f, Q)) : Prop := wE f env M Q
def hS (s : Sv) (env : qE) (M : qM) (Q : Re → qE → qM → Prop) (_ : Hd (s, Q)) : Prop := wS s env M Q
def hF (F : Fn) (vs : List Value) (M : qM) (Q : Option Value → qM → Prop) (_ : Hd (F, Q)) : Prop := wF F vs M Q
def hR {α : Type} (x : α) (m : qM) (Q : α → qM → Prop) (_ : Hd Q) : Prop := Q x m
def hT (r : Re) (e : qE) (m : qM) (Q : Re → qE → qM → Prop) (_ : Hd Q) : Prop := Q r e m
def hI (c A B : Prop) (_ : Hd (A, B)) : Prop := (c → A) ∧ (¬ c → B)
def hVI (v : Option Value) (m : qM) (Q : Int32 → qM → Prop) (_ : Hd Q) : Prop := match v with | some (.int x) => Q x m | _ => False
def hVL (v : Option Value) (m : qM) (Q : Int64 → qM → Prop) (_ : Hd Q) : Prop := match v with | some (.long x) => Q x m | _ => False
def hVR (v : Option Value) (m : qM) (Q : Nat → qM → Prop) (_ : Hd Q) : Prop := match v with | some (.ref x) => Q x m | _ => False
def hVT (v : Option Value) (m : qM) (Q : Nat → qM → Prop) (_ : Hd Q) : Prop := match v with | some (.retAddr x) => Q x m | _ => False
def hVV (v : Option Value) (m : qM) (Q : Unit → qM → Prop) (_ : Hd Q) : Prop := match v with | none => Q Unit.unit m | _ => False
def hO (v : Option Nat) (m : qM) (Q : Nat → qM → Prop) (_ : Hd Q) : Prop := match v with | some x => Q x m | none => False
def hB (r : Re) (e : qE) (m : qM) (b : Sv) (Q : Re → qE → qM → Prop) (_ : Hd (b, Q)) : Prop := match r with | .inl 0 => wS b e m Q | _ => Q r e m
def hU (r : Re) (e : qE) (m : qM) (Q : Re → qE → qM → Prop) (_ : Hd Q) : Prop := match r with | .inl 1 => Q (.inl 0) e m | _ => Q r e m
def hX (r : Re) (m : qM) (Q : Option Value → qM → Prop) (_ : Hd Q) : Prop := match r with | .inr v => Q v m | _ => False
def hL (r : Re) (e : qE) (m : qM) (i : Sv) (J : qE → qM → Prop) (Q : Re → qE → qM → Prop) (_ : Hd (i, J, Q)) : Prop := match r with
  | .inl 0 => wS i e m (fun r3 e3 m3 => r3 = .inl 0 ∧ J e3 m3)
  | .inl 2 => wS i e m (fun r3 e3 m3 => r3 = .inl 0 ∧ J e3 m3)
  | .inl 1 => Q (.inl 0) e m
  | .inr v => Q (.inr v) e m
  | _ => False
section HELD
variable {α β γ : Type} {env : qE} {M : qM}
theorem hR_d {x : α} {m : qM} {Q : α → qM → Prop} {u : Hd Q} : hR x m Q u = Q x m := rfl
theorem hT_d {r : Re} {e : qE} {m : qM} {Q : Re → qE → qM → Prop} {u : Hd Q} : hT r e m Q u = Q r e m := rfl
theorem hI_t {A B : Prop} {u : Hd (A, B)} : hI True A B u = A := by unfold hI; simp
theorem hI_f {A B : Prop} {u : Hd (A, B)} : hI False A B u = B := by unfold hI; simp
theorem hI_s {c A B : Prop} {u : Hd (A, B)} : hI c A B u = ((c → A) ∧ (¬ c → B)) := rfl
theorem hI_p {c A B : Prop} {u : Hd (A, B)} (h : c) : hI c A B u = A := by unfold hI; simp [h]
theorem hI_n {c A B : Prop} {u : Hd (A, B)} (h : ¬ c) : hI c A B u = B := by unfold hI; simp [h]
theorem hI_ite {c A B : Prop} [Decidable c] {u : Hd (A, B)} : (if c then A else B) = hI c A B u := by unfold hI; by_cases h : c <;> simp [h]
theorem hVI_s {x : Int32} {m : qM} {Q : Int32 → qM → Prop} {u : Hd Q} : hVI (some (.int x)) m Q u = Q x m := rfl
theorem hVL_s {x : Int64} {m : qM} {Q : Int64 → qM → Prop} {u : Hd Q} : hVL (some (.long x)) m Q u = Q x m := rfl
theorem hVR_s {x : Nat} {m : qM} {Q : Nat → qM → Prop} {u : Hd Q} : hVR (some (.ref x)) m Q u = Q x m := rfl
theorem hVT_s {x : Nat} {m : qM} {Q : Nat → qM → Prop} {u : Hd Q} : hVT (some (.retAddr x)) m Q u = Q x m := rfl
theorem hVV_s {m : qM} {Q : Unit → qM → Prop} {u : Hd Q} : hVV none m Q u = Q Unit.unit m := rfl
theorem hO_s {x : Nat} {m : qM} {Q : Nat → qM → Prop} {u : Hd Q} : hO (some x) m Q u = Q x m := rfl
theorem hB_0 {e : qE} {m : qM} {b : Sv} {Q : Re → qE → qM → Prop} {u : Hd (b, Q)} : hB (.inl 0) e m b Q u = hS b e m Q () := rfl
theorem hB_1 {e : qE} {m : qM} {b : Sv} {Q : Re → qE → qM → Prop} {u : Hd (b, Q)} : hB (.inl 1) e m b Q u = Q (.inl 1) e m := rfl
theorem hB_2 {e : qE} {m : qM} {b : Sv} {Q : Re → qE → qM → Prop} {u : Hd (b, Q)} : hB (.inl 2) e m b Q u = Q (.inl 2) e m := rfl
theorem hB_r {v : Option Value} {e : qE} {m : qM} {b : Sv} {Q : Re → qE → qM → Prop} {u : Hd (b, Q)} : hB (.inr v) e m b Q u = Q (.inr v) e m := rfl
theorem hU_0 {e : qE} {m : qM} {Q : Re → qE → qM → Prop} {u : Hd Q} : hU (.inl 0) e m Q u = Q (.inl 0) e m := rfl
theorem hU_1 {e : qE} {m : qM} {Q : Re → qE → qM → Prop} {u : Hd Q} : hU (.inl 1) e m Q u = Q (.inl 0) e m := rfl
theorem hU_2 {e : qE} {m : qM} {Q : Re → qE → qM → Prop} {u : Hd Q} : hU (.inl 2) e m Q u = Q (.inl 2) e m := rfl
theorem hU_r {v : Option Value} {e : qE} {m : qM} {Q : Re → qE → qM → Prop} {u : Hd Q} : hU (.inr v) e m Q u = Q (.inr v) e m := rfl
theorem hX_r {v : Option Value} {m : qM} {Q : Option Value → qM → Prop} {u : Hd Q} : hX (.inr v) m Q u = Q v m := rfl
theorem hX_0 {n : Nat} {m : qM} {Q : Option Value → qM → Prop} {u : Hd Q} : hX (.inl n) m Q u = False := rfl
theorem hL_0 {e : qE} {m : qM} {i : Sv} {J : qE → qM → Prop} {Q : Re → qE → qM → Prop} {u : Hd (i, J, Q)} : hL (.inl 0) e m i J Q u = hS i e m (fun r3 e3 m3 => r3 = .inl 0 ∧ J e3 m3) () := rfl
theorem hL_2 {e : qE} {m : qM} {i : Sv} {J : qE → qM → Prop} {Q : Re → qE → qM → Prop} {u : Hd (i, J, Q)} : hL (.inl 2) e m i J Q u = hS i e m (fun r3 e3 m3 => r3 = .inl 0 ∧ J e3 m3) () := rfl
theorem hL_1 {e : qE} {m : qM} {i : Sv} {J : qE → qM → Prop} {Q : Re → qE → qM → Prop} {u : Hd (i, J, Q)} : hL (.inl 1) e m i J Q u = Q (.inl 0) e m := rfl
theorem hL_r {v : Option Value} {e : qE} {m : qM} {i : Sv} {J : qE → qM → Prop} {Q : Re → qE → qM → Prop} {u : Hd (i, J, Q)} : hL (.inr v) e m i J Q u = Q (.inr v) e m := rfl
theorem h_eK {x : α} {Q : α → qM → Prop} {u : Hd (eK x, Q)} : hE (eK x) env M Q u = hR x M Q () := w_eK
theorem h_k0 {Q : Int32 → qM → Prop} {u : Hd (eK (0 : Int32), Q)} : hE (eK (0 : Int32)) env M Q u = hR (n32 0) M Q () := w_eK
theorem h_k1 {Q : Int32 → qM → Prop} {u : Hd (eK (1 : Int32), Q)} : hE (eK (1 : Int32)) env M Q u = hR (n32 1) M Q () := w_eK
theorem h_k2 {Q : Int32 → qM → Prop} {u : Hd (eK (2 : Int32), Q)} : hE (eK (2 : Int32)) env M Q u = hR (n32 2) M Q () := w_eK
theorem h_k3 {Q : Int32 → qM → Prop} {u : Hd (eK (3 : Int32), Q)} : hE (eK (3 : Int32)) env M Q u = hR (n32 3) M Q () := w_eK
theorem h_k4 {Q : Int32 → qM → Prop} {u : Hd (eK (4 : Int32), Q)} : hE (eK (4 : Int32)) env M Q u = hR (n32 4) M Q () := w_eK
theorem h_k5 {Q : Int32 → qM → Prop} {u : Hd (eK (5 : Int32), Q)} : hE (eK (5 : Int32)) env M Q u = hR (n32 5) M Q () := w_eK
theorem h_k6 {Q : Int32 → qM → Prop} {u : Hd (eK (6 : Int32), Q)} : hE (eK (6 : Int32)) env M Q u = hR (n32 6) M Q () := w_eK
theorem h_k7 {Q : Int32 → qM → Prop} {u : Hd (eK (7 : Int32), Q)} : hE (eK (7 : Int32)) env M Q u = hR (n32 7) M Q () := w_eK
theorem h_k8 {Q : Int32 → qM → Prop} {u : Hd (eK (8 : Int32), Q)} : hE (eK (8 : Int32)) env M Q u = hR (n32 8) M Q () := w_eK
theorem h_k9 {Q : Int32 → qM → Prop} {u : Hd (eK (9 : Int32), Q)} : hE (eK (9 : Int32)) env M Q u = hR (n32 9) M Q () := w_eK
theorem h_k10 {Q : Int32 → qM → Prop} {u : Hd (eK (10 : Int32), Q)} : hE (eK (10 : Int32)) env M Q u = hR (n32 10) M Q () := w_eK
theorem h_k11 {Q : Int32 → qM → Prop} {u : Hd (eK (11 : Int32), Q)} : hE (eK (11 : Int32)) env M Q u = hR (n32 11) M Q () := w_eK
theorem h_k12 {Q : Int32 → qM → Prop} {u : Hd (eK (12 : Int32), Q)} : hE (eK (12 : Int32)) env M Q u = hR (n32 12) M Q () := w_eK
theorem h_k14 {Q : Int32 → qM → Prop} {u : Hd (eK (14 : Int32), Q)} : hE (eK (14 : Int32)) env M Q u = hR (n32 14) M Q () := w_eK
theorem h_k16 {Q : Int32 → qM → Prop} {u : Hd (eK (16 : Int32), Q)} : hE (eK (16 : Int32)) env M Q u = hR (n32 16) M Q () := w_eK
theorem h_k18 {Q : Int32 → qM → Prop} {u : Hd (eK (18 : Int32), Q)} : hE (eK (18 : Int32)) env M Q u = hR (n32 18) M Q () := w_eK
theorem h_k20 {Q : Int32 → qM → Prop} {u : Hd (eK (20 : Int32), Q)} : hE (eK (20 : Int32)) env M Q u = hR (n32 20) M Q () := w_eK
theorem h_k23 {Q : Int32 → qM → Prop} {u : Hd (eK (23 : Int32), Q)} : hE (eK (23 : Int32)) env M Q u = hR (n32 23) M Q () := w_eK
theorem h_k24 {Q : Int32 → qM → Prop} {u : Hd (eK (24 : Int32), Q)} : hE (eK (24 : Int32)) env M Q u = hR (n32 24) M Q () := w_eK
theorem h_k25 {Q : Int32 → qM → Prop} {u : Hd (eK (25 : Int32), Q)} : hE (eK (25 : Int32)) env M Q u = hR (n32 25) M Q () := w_eK
theorem h_k32 {Q : Int32 → qM → Prop} {u : Hd (eK (32 : Int32), Q)} : hE (eK (32 : Int32)) env M Q u = hR (n32 32) M Q () := w_eK
theorem h_k44 {Q : Int32 → qM → Prop} {u : Hd (eK (44 : Int32), Q)} : hE (eK (44 : Int32)) env M Q u = hR (n32 44) M Q () := w_eK
theorem h_k48 {Q : Int32 → qM → Prop} {u : Hd (eK (48 : Int32), Q)} : hE (eK (48 : Int32)) env M Q u = hR (n32 48) M Q () := w_eK
theorem h_k50 {Q : Int32 → qM → Prop} {u : Hd (eK (50 : Int32), Q)} : hE (eK (50 : Int32)) env M Q u = hR (n32 50) M Q () := w_eK
theorem h_k54 {Q : Int32 → qM → Prop} {u : Hd (eK (54 : Int32), Q)} : hE (eK (54 : Int32)) env M Q u = hR (n32 54) M Q () := w_eK
theorem h_k57 {Q : Int32 → qM → Prop} {u : Hd (eK (57 : Int32), Q)} : hE (eK (57 : Int32)) env M Q u = hR (n32 57) M Q () := w_eK
theorem h_k58 {Q : Int32 → qM → Prop} {u : Hd (eK (58 : Int32), Q)} : hE (eK (58 : Int32)) env M Q u = hR (n32 58) M Q () := w_eK
theorem h_k59 {Q : Int32 → qM → Prop} {u : Hd (eK (59 : Int32), Q)} : hE (eK (59 : Int32)) env M Q u = hR (n32 59) M Q () := w_eK
theorem h_k60 {Q : Int32 → qM → Prop} {u : Hd (eK (60 : Int32), Q)} : hE (eK (60 : Int32)) env M Q u = hR (n32 60) M Q () := w_eK
theorem h_k63 {Q : Int32 → qM → Prop} {u : Hd (eK (63 : Int32), Q)} : hE (eK (63 : Int32)) env M Q u = hR (n32 63) M Q () := w_eK
theorem h_k97 {Q : Int32 → qM → Prop} {u : Hd (eK (97 : Int32), Q)} : hE (eK (97 : Int32)) env M Q u = hR (n32 97) M Q () := w_eK
theorem h_k100 {Q : Int32 → qM → Prop} {u : Hd (eK (100 : Int32), Q)} : hE (eK (100 : Int32)) env M Q u = hR (n32 100) M Q () := w_eK
theorem h_k122 {Q : Int32 → qM → Prop} {u : Hd (eK (122 : Int32), Q)} : hE (eK (122 : Int32)) env M Q u = hR (n32 122) M Q () := w_eK
theorem h_k177 {Q : Int32 → qM → Prop} {u : Hd (eK (177 : Int32), Q)} : hE (eK (177 : Int32)) env M Q u = hR (n32 177) M Q () := w_eK
theorem h_k255 {Q : Int32 → qM → Prop} {u : Hd (eK (255 : Int32), Q)} : hE (eK (255 : Int32)) env M Q u = hR (n32 255) M Q () := w_eK
theorem h_k400 {Q : Int32 → qM → Prop} {u : Hd (eK (400 : Int32), Q)} : hE (eK (400 : Int32)) env M Q u = hR (n32 400) M Q () := w_eK
theorem h_k450 {Q : Int32 → qM → Prop} {u : Hd (eK (450 : Int32), Q)} : hE (eK (450 : Int32)) env M Q u = hR (n32 450) M Q () := w_eK
theorem h_k625 {Q : Int32 → qM → Prop} {u : Hd (eK (625 : Int32), Q)} : hE (eK (625 : Int32)) env M Q u = hR (n32 625) M Q () := w_eK
theorem h_k649 {Q : Int32 → qM → Prop} {u : Hd (eK (649 : Int32), Q)} : hE (eK (649 : Int32)) env M Q u = hR (n32 649) M Q () := w_eK
theorem h_k708 {Q : Int32 → qM → Prop} {u : Hd (eK (708 : Int32), Q)} : hE (eK (708 : Int32)) env M Q u = hR (n32 708) M Q () := w_eK
theorem h_k800 {Q : Int32 → qM → Prop} {u : Hd (eK (800 : Int32), Q)} : hE (eK (800 : Int32)) env M Q u = hR (n32 800) M Q () := w_eK
theorem h_k900 {Q : Int32 → qM → Prop} {u : Hd (eK (900 : Int32), Q)} : hE (eK (900 : Int32)) env M Q u = hR (n32 900) M Q () := w_eK
theorem h_k2500 {Q : Int32 → qM → Prop} {u : Hd (eK (2500 : Int32), Q)} : hE (eK (2500 : Int32)) env M Q u = hR (n32 2500) M Q () := w_eK
theorem h_k22500 {Q : Int32 → qM → Prop} {u : Hd (eK (22500 : Int32), Q)} : hE (eK (22500 : Int32)) env M Q u = hR (n32 22500) M Q () := w_eK
theorem h_k45000 {Q : Int32 → qM → Prop} {u : Hd (eK (45000 : Int32), Q)} : hE (eK (45000 : Int32)) env M Q u = hR (n32 45000) M Q () := w_eK
theorem h_kn1 {Q : Int32 → qM → Prop} {u : Hd (eK (-1 : Int32), Q)} : hE (eK (-1 : Int32)) env M Q u = hR (-1) M Q () := w_eK
theorem h_kn2 {Q : Int32 → qM → Prop} {u : Hd (eK (-2 : Int32), Q)} : hE (eK (-2 : Int32)) env M Q u = hR (-2) M Q () := w_eK
theorem h_kJ {x : Int64} {Q : Int64 → qM → Prop} {u : Hd (eK x, Q)} : hE (eK x) env M Q u = hR x M Q () := w_eK
theorem h_kU {x : Unit} {Q : Unit → qM → Prop} {u : Hd (eK x, Q)} : hE (eK x) env M Q u = hR x M Q () := w_eK
theorem h_eI {i : Nat} {Q : Int32 → qM → Prop} {u : Hd (eI i, Q)} : hE (eI i) env M Q u = hVI env[i]? M Q () := w_eI
theorem h_eL {i : Nat} {Q : Int64 → qM → Prop} {u : Hd (eL i, Q)} : hE (eL i) env M Q u = hVL env[i]? M Q () := w_eL
theorem h_eR {i : Nat} {Q : Nat → qM → Prop} {u : Hd (eR i, Q)} : hE (eR i) env M Q u = hVR env[i]? M Q () := w_eR
theorem h_eT {i : Nat} {Q : Nat → qM → Prop} {u : Hd (eT i, Q)} : hE (eT i) env M Q u = hVT env[i]? M Q () := w_eT
theorem h_b1 {f : α → β} {a : Ev α} {Q : β → qM → Prop} {u : Hd (b1 f a, Q)} : hE (b1 f a) env M Q u = hE a env M (fun x m => hR (f x) m Q ()) () := w_b1
theorem h_eZ {a : Ev Bool} {Q : Int32 → qM → Prop} {u : Hd (eZ a, Q)} : hE (eZ a) env M Q u = hE a env M (fun x m => hR (b2i x) m Q ()) () := w_b1
theorem h_not {a : Ev Bool} {Q : Bool → qM → Prop} {u : Hd (cNot a, Q)} : hE (cNot a) env M Q u = hE a env M (fun x m => hR (!x) m Q ()) () := w_b1
theorem h_b2 {f : α → β → γ} {a : Ev α} {b : Ev β} {Q : γ → qM → Prop} {u : Hd (b2 f a b, Q)} : hE (b2 f a b) env M Q u = hE a env M (fun x m => hE b env m (fun y m' => hR (f x y) m' Q ()) ()) () := w_b2
theorem h_b0 {f : Int32 → Int32 → γ} {a b : Ev Int32} {Q : γ → qM → Prop} {u : Hd (b0 f a b, Q)} : hE (b0 f a b) env M Q u = hE a env M (fun x m => hE b env m (fun y m' => y ≠ 0 ∧ hR (f x y) m' Q ()) ()) () := w_b0
theorem h_b0L {f : Int64 → Int64 → Int64} {a b : Ev Int64} {Q : Int64 → qM → Prop} {u : Hd (b0L f a b, Q)} : hE (b0L f a b) env M Q u = hE a env M (fun x m => hE b env m (fun y m' => y ≠ 0 ∧ hR (f x y) m' Q ()) ()) () := w_b0L
theorem h_gI {t k : Nat} {a : Ev Nat} {Q : Int32 → qM → Prop} {u : Hd (gI t k a, Q)} : hE (gI t k a) env M Q u = hE a env M (fun o m => (tg m o).1 = t ∧ hR (vi m o k) m Q ()) () := w_gI
theorem h_gL {t k : Nat} {a : Ev Nat} {Q : Int64 → qM → Prop} {u : Hd (gL t k a, Q)} : hE (gL t k a) env M Q u = hE a env M (fun o m => (tg m o).1 = t ∧ hR (vl m o k) m Q ()) () := w_gL
theorem h_gN {t k : Nat} {a : Ev Nat} {Q : Option Nat → qM → Prop} {u : Hd (gN t k a, Q)} : hE (gN t k a) env M Q u = hE a env M (fun o m => (tg m o).1 = t ∧ hR (vr m o k) m Q ()) () := w_gN
theorem h_gR {t k : Nat} {a : Ev Nat} {Q : Nat → qM → Prop} {u : Hd (gR t k a, Q)} : hE (gR t k a) env M Q u = hE a env M (fun o m => (tg m o).1 = t ∧ hO (vr m o k) m Q ()) () := w_gR
theorem h_aI {t : Nat} {a : Ev Nat} {i : Ev Int32} {Q : Int32 → qM → Prop} {u : Hd (aI t a i, Q)} : hE (aI t a i) env M Q u = hE a env M (fun o m => hE i env m (fun q m' => ((tg m' o).1 = t ∧ inb q (tg m' o).2 = true) ∧ hR (vi m' o q.toNatClampNeg) m' Q ()) ()) () := w_aI
theorem h_aL {a : Ev Nat} {i : Ev Int32} {Q : Int64 → qM → Prop} {u : Hd (aL a i, Q)} : hE (aL a i) env M Q u = hE a env M (fun o m => hE i env m (fun q m' => ((tg m' o).1 = 21 ∧ inb q (tg m' o).2 = true) ∧ hR (vl m' o q.toNatClampNeg) m' Q ()) ()) () := w_aL
theorem h_aR {a : Ev Nat} {i : Ev Int32} {Q : Nat → qM → Prop} {u : Hd (aR a i, Q)} : hE (aR a i) env M Q u = hE a env M (fun o m => hE i env m (fun q m' => ((tg m' o).1 = 24 ∧ inb q (tg m' o).2 = true) ∧ hO (vr m' o q.toNatClampNeg) m' Q ()) ()) () := w_aR
theorem h_aLen {a : Ev Nat} {Q : Int32 → qM → Prop} {u : Hd (aLen a, Q)} : hE (aLen a) env M Q u = hE a env M (fun o m => 20 ≤ (tg m o).1 ∧ hR (Int32.ofNat (tg m o).2) m Q ()) () := w_aLen
theorem h_tern {c : Ev Bool} {a b : Ev α} {Q : α → qM → Prop} {u : Hd (tern c a b, Q)} : hE (tern c a b) env M Q u = hE c env M (fun x m => hI (x = true) (hE a env m Q ()) (hE b env m Q ()) ()) () := by
  exact w_tern.trans (congrArg (wE _ env M) (funext fun x => funext fun m => hI_ite))
theorem h_and {a b : Ev Bool} {Q : Bool → qM → Prop} {u : Hd (cAnd a b, Q)} : hE (cAnd a b) env M Q u = hE a env M (fun x m => hI (x = true) (hE b env m Q ()) (Q false m) ()) () := by
  exact w_and.trans (congrArg (wE _ env M) (funext fun x => funext fun m => hI_ite))
theorem h_or {a b : Ev Bool} {Q : Bool → qM → Prop} {u : Hd (cOr a b, Q)} : hE (cOr a b) env M Q u = hE a env M (fun x m => hI (x = true) (Q true m) (hE b env m Q ()) ()) () := by
  exact w_or.trans (congrArg (wE _ env M) (funext fun x => funext fun m => hI_ite))
theorem h_vN {Q : List Value → qM → Prop} {u : Hd (vN, Q)} : hE vN env M Q u = hR [] M Q () := w_vN
theorem h_vI {a : Ev (List Value)} {e : Ev Int32} {Q : List Value → qM → Prop} {u : Hd (vI a e, Q)} : hE (vI a e) env M Q u = hE a env M (fun x m => hE e env m (fun y m' => hR (x ++ [Value.int y]) m' Q ()) ()) () := w_b2
theorem h_vJ {a : Ev (List Value)} {e : Ev Int64} {Q : List Value → qM → Prop} {u : Hd (vJ a e, Q)} : hE (vJ a e) env M Q u = hE a env M (fun x m => hE e env m (fun y m' => hR (x ++ [Value.long y]) m' Q ()) ()) () := w_b2
theorem h_vA {a : Ev (List Value)} {e : Ev Nat} {Q : List Value → qM → Prop} {u : Hd (vA a e, Q)} : hE (vA a e) env M Q u = hE a env M (fun x m => hE e env m (fun y m' => hR (x ++ [Value.ref y]) m' Q ()) ()) () := w_b2
theorem h_cFv {t : Nat} {F : Fn} {a : Ev (List Value)} {Q : Option Value → qM → Prop} {u : Hd (cFv t F a, Q)} : hE (cFv t F a) env M Q u = hE a env M (fun vs m => rcv t vs m = true ∧ hF F vs m Q ()) () := w_cFv
theorem h_cFs {F : Fn} {a : Ev (List Value)} {Q : Option Value → qM → Prop} {u : Hd (cFs F a, Q)} : hE (cFs F a) env M Q u = hE a env M (fun vs m => hF F vs m Q ()) () := w_cFs
theorem h_toI {f : Ev (Option Value)} {Q : Int32 → qM → Prop} {u : Hd (toI f, Q)} : hE (toI f) env M Q u = hE f env M (fun v m => hVI v m Q ()) () := w_toI
theorem h_toL {f : Ev (Option Value)} {Q : Int64 → qM → Prop} {u : Hd (toL f, Q)} : hE (toL f) env M Q u = hE f env M (fun v m => hVL v m Q ()) () := w_toL
theorem h_toV {f : Ev (Option Value)} {Q : Unit → qM → Prop} {u : Hd (toV f, Q)} : hE (toV f) env M Q u = hE f env M (fun v m => hVV v m Q ()) () := w_toV
theorem h_nO {t n : Nat} {F : Fn} {Q : Nat → qM → Prop} {u : Hd (nO t n F, Q)} : hE (nO t n F) env M Q u = hF F [.ref (mN M)] (mk1 M t n) (fun v m => v = none ∧ hR (mN M) m Q ()) () := w_nO
theorem h_nA {t : Nat} {e : Ev Int32} {Q : Nat → qM → Prop} {u : Hd (nA t e, Q)} : hE (nA t e) env M Q u = hE e env M (fun x m => ¬ (x < 0 ∨ 65536 < x.toNatClampNeg) ∧ hR (mN m) (mk1 m t x.toNatClampNeg) Q ()) () := w_nA
theorem g_skip {Q : Re → qE → qM → Prop} {u : Hd (sSkip, Q)} : hS sSkip env M Q u = Q (.inl 0) env M := s_skip
theorem g_brk {Q : Re → qE → qM → Prop} {u : Hd (sBrk, Q)} : hS sBrk env M Q u = Q (.inl 1) env M := s_brk
theorem g_cnt {Q : Re → qE → qM → Prop} {u : Hd (sCnt, Q)} : hS sCnt env M Q u = Q (.inl 2) env M := s_cnt
theorem g_retV {Q : Re → qE → qM → Prop} {u : Hd (sRetV, Q)} : hS sRetV env M Q u = Q (.inr none) env M := s_retV
theorem g_seq {a b : Sv} {Q : Re → qE → qM → Prop} {u : Hd (sSeq a b, Q)} : hS (sSeq a b) env M Q u = hS a env M (fun r e m => hB r e m b Q ()) () := s_seq
theorem g_if {c : Ev Bool} {a b : Sv} {Q : Re → qE → qM → Prop} {u : Hd (sIf c a b, Q)} : hS (sIf c a b) env M Q u = hE c env M (fun x m => hI (x = true) (hS a env m Q ()) (hS b env m Q ()) ()) () := by
  exact s_if.trans (congrArg (wE _ env M) (funext fun x => funext fun m => hI_ite))
theorem g_set1 {mk : α → Value} {i : Nat} {e : Ev α} {Q : Re → qE → qM → Prop} {u : Hd (sSet1 mk i e, Q)} : hS (sSet1 mk i e) env M Q u = hE e env M (fun x m => ¬ (0 < i ∧ isL env[i - 1]? = true) ∧ hT (.inl 0) (sto env i (mk x)) m Q ()) () := s_set1
theorem g_setI {i : Nat} {e : Ev Int32} {Q : Re → qE → qM → Prop} {u : Hd (sSetI i e, Q)} : hS (sSetI i e) env M Q u = hE e env M (fun x m => ¬ (0 < i ∧ isL env[i - 1]? = true) ∧ hT (.inl 0) (sto env i (.int x)) m Q ()) () := s_set1
theorem g_setR {i : Nat} {e : Ev Nat} {Q : Re → qE → qM → Prop} {u : Hd (sSetR i e, Q)} : hS (sSetR i e) env M Q u = hE e env M (fun x m => ¬ (0 < i ∧ isL env[i - 1]? = true) ∧ hT (.inl 0) (sto env i (.ref x)) m Q ()) () := s_set1
theorem g_setL {i : Nat} {e : Ev Int64} {Q : Re → qE → qM → Prop} {u : Hd (sSetL i e, Q)} : hS (sSetL i e) env M Q u = hE e env M (fun x m => ¬ (0 < i ∧ isL env[i - 1]? = true) ∧ hT (.inl 0) (sto (sto env i (.long x)) (i + 1) .null) m Q ()) () := s_setL
def hC (v : Option Value) (i : Nat) (n : Int) (e : qE) (m : qM) (Q : Re → qE → qM → Prop) (_ : Hd Q) : Prop := match v with | some (.int x) => Q (.inl 0) (e.set i (.int (x + Int32.ofInt n))) m | _ => False
theorem hC_s {x : Int32} {i : Nat} {n : Int} {e : qE} {m : qM} {Q : Re → qE → qM → Prop} {u : Hd Q} : hC (some (.int x)) i n e m Q u = hT (.inl 0) (e.set i (.int (x + Int32.ofInt n))) m Q () := rfl
theorem g_inc {i : Nat} {n : Int} {Q : Re → qE → qM → Prop} {u : Hd (sInc i n, Q)} : hS (sInc i n) env M Q u = hC env[i]? i n env M Q () := s_inc
theorem g_putI {t k : Nat} {o : Ev Nat} {e : Ev Int32} {Q : Re → qE → qM → Prop} {u : Hd (sPutI t k o e, Q)} : hS (sPutI t k o e) env M Q u = hE o env M (fun a m => hE e env m (fun x m' => (tg m' a).1 = t ∧ hT (.inl 0) env (pI m' a k x) Q ()) ()) () := s_putI
theorem g_putZ {t k : Nat} {o : Ev Nat} {e : Ev Int32} {Q : Re → qE → qM → Prop} {u : Hd (sPutZ t k o e, Q)} : hS (sPutZ t k o e) env M Q u = hE o env M (fun a m => hE e env m (fun x m' => ((tg m' a).1 = t ∧ okZ x = true) ∧ hT (.inl 0) env (pI m' a k x) Q ()) ()) () := s_putZ
theorem g_putL {t k : Nat} {o : Ev Nat} {e : Ev Int64} {Q : Re → qE → qM → Prop} {u : Hd (sPutL t k o e, Q)} : hS (sPutL t k o e) env M Q u = hE o env M (fun a m => hE e env m (fun x m' => (tg m' a).1 = t ∧ hT (.inl 0) env (pL m' a k x) Q ()) ()) () := s_putL
theorem g_putR {t k : Nat} {o : Ev Nat} {e : Ev Nat} {Q : Re → qE → qM → Prop} {u : Hd (sPutR t k o e, Q)} : hS (sPutR t k o e) env M Q u = hE o env M (fun a m => hE e env m (fun x m' => (tg m' a).1 = t ∧ hT (.inl 0) env (pR m' a k (some x)) Q ()) ()) () := s_putR
theorem g_upI {t k : Nat} {o : Ev Nat} {g : Int32 → Int32 → Int32} {e : Ev Int32} {Q : Re → qE → qM → Prop} {u : Hd (sUpI t k o g e, Q)} : hS (sUpI t k o g e) env M Q u = hE o env M (fun a m => (tg m a).1 = t ∧ hE e env m (fun x m' => (tg m' a).1 = t ∧ hT (.inl 0) env (pI m' a k (g (vi m a k) x)) Q ()) ()) () := s_upI
theorem g_AI {t : Nat} {a : Ev Nat} {i e : Ev Int32} {Q : Re → qE → qM → Prop} {u : Hd (sAI t a i e, Q)} : hS (sAI t a i e) env M Q u = hE a env M (fun o m => hE i env m (fun q m' => hE e env m' (fun x m2 => ((tg m2 o).1 = t ∧ inb q (tg m2 o).2 = true) ∧ hT (.inl 0) env (pI m2 o q.toNatClampNeg (nar t x)) Q ()) ()) ()) () := s_AI
theorem g_AL {a : Ev Nat} {i : Ev Int32} {e : Ev Int64} {Q : Re → qE → qM → Prop} {u : Hd (sAL a i e, Q)} : hS (sAL a i e) env M Q u = hE a env M (fun o m => hE i env m (fun q m' => hE e env m' (fun x m2 => ((tg m2 o).1 = 21 ∧ inb q (tg m2 o).2 = true) ∧ hT (.inl 0) env (pL m2 o q.toNatClampNeg x) Q ()) ()) ()) () := s_AL
theorem g_AR {a : Ev Nat} {i : Ev Int32} {e : Ev Nat} {Q : Re → qE → qM → Prop} {u : Hd (sAR a i e, Q)} : hS (sAR a i e) env M Q u = hE a env M (fun o m => hE i env m (fun q m' => hE e env m' (fun x m2 => ((tg m2 o).1 = 24 ∧ inb q (tg m2 o).2 = true ∧ (tg m2 x).1 = 4) ∧ hT (.inl 0) env (pR m2 o q.toNatClampNeg (some x)) Q ()) ()) ()) () := s_AR
theorem g_UA {a : Ev Nat} {i : Ev Int32} {g : Int32 → Int32 → Int32} {e : Ev Int32} {Q : Re → qE → qM → Prop} {u : Hd (sUA a i g e, Q)} : hS (sUA a i g e) env M Q u = hE a env M (fun o m => hE i env m (fun q m' => ((tg m' o).1 = 20 ∧ inb q (tg m' o).2 = true) ∧ hE e env m' (fun x m2 => ((tg m2 o).1 = 20 ∧ inb q (tg m2 o).2 = true) ∧ hT (.inl 0) env (pI m2 o q.toNatClampNeg (g (vi m' o q.toNatClampNeg) x)) Q ()) ()) ()) () := s_UA
theorem g_exp {e : Ev α} {Q : Re → qE → qM → Prop} {u : Hd (sExp e, Q)} : hS (sExp e) env M Q u = hE e env M (fun _ m => hT (.inl 0) env m Q ()) () := s_exp
theorem g_ret {mk : α → Value} {e : Ev α} {Q : Re → qE → qM → Prop} {u : Hd (sRet mk e, Q)} : hS (sRet mk e) env M Q u = hE e env M (fun x m => hT (.inr (some (mk x))) env m Q ()) () := s_ret
theorem g_retI {e : Ev Int32} {Q : Re → qE → qM → Prop} {u : Hd (sRetI e, Q)} : hS (sRetI e) env M Q u = hE e env M (fun x m => hT (.inr (some (.int x))) env m Q ()) () := s_ret
theorem g_retL {e : Ev Int64} {Q : Re → qE → qM → Prop} {u : Hd (sRetL e, Q)} : hS (sRetL e) env M Q u = hE e env M (fun x m => hT (.inr (some (.long x))) env m Q ()) () := s_ret
theorem g_retZ {e : Ev Int32} {Q : Re → qE → qM → Prop} {u : Hd (sRetZ e, Q)} : hS (sRetZ e) env M Q u = hE e env M (fun x m => okZ x = true ∧ hT (.inr (some (.int x))) env m Q ()) () := s_retZ
theorem g_scope {n : Nat} {b : Sv} {Q : Re → qE → qM → Prop} {u : Hd (sScope n b, Q)} : hS (sScope n b) env M Q u = hS b env M (fun r e m => hT r (e.take n) m Q ()) () := s_scope
theorem g_unBrk {a : Sv} {Q : Re → qE → qM → Prop} {u : Hd (unBrk a, Q)} : hS (unBrk a) env M Q u = hS a env M (fun r e m => hU r e m Q ()) () := s_unBrk
theorem g_sup {x : Nat} {l : qE} {Q : Re → qE → qM → Prop} {u : Hd (sSup, Q)} : hS sSup (.ref x :: l) M Q u = Q (.inl 0) (.ref x :: l) M := s_sup
theorem h_of {F : Fn} {vs : List Value} {m : qM} {v : Option Value} (h : F vs M = some (v, m)) (Q : Option Value → qM → Prop) {u : Hd (F, Q)} : hF F vs M Q u = Q v m := wF_of h Q
theorem h_fn {n : Nat} {b : Sv} {vs : List Value} {Q : Option Value → qM → Prop} {u : Hd (fnOf n b, Q)} : hF (fnOf n b) vs M Q u = ((argE vs).length = n ∧ hS b (argE vs) M (fun r _ m => hX r m Q ()) ()) := f_of
theorem h_eq {F : Fn} {vs : List Value} {m : qM} {v : Option Value} (h : hF F vs M (fun v' m' => v' = v ∧ m' = m) ()) : F vs M = some (v, m) := wF_eq h
theorem h_ex {F : Fn} {vs : List Value} {Q : Option Value → qM → Prop} (h : hF F vs M Q ()) : ∃ v m, F vs M = some (v, m) ∧ Q v m := h
theorem hS.mono {s : Sv} {Q Q' : Re → qE → qM → Prop} (h : hS s env M Q ()) (k : ∀ r e m, Q r e m → Q' r e m) : hS s env M Q' () := wS.mono h k
/-- a loop that counts up to N -/
theorem h_up {c : Ev Bool} {b i : Sv} {Q : Re → qE → qM → Prop} {u : Hd (sLoop c b i, Q)} (I : Nat → qE → qM → Prop) (N : Nat) (h0 : I 0 env M)
    (step : ∀ j e m, j < N → I j e m → hE c e m (fun x m1 => x = true ∧ hS b e m1 (fun r e2 m2 => hL r e2 m2 i (I (j + 1)) Q ()) ()) ())
    (last : ∀ e m, I N e m → hE c e m (fun x m1 => x = false ∧ hT (.inl 0) e m1 Q ()) ()) : hS (sLoop c b i) env M Q u := s_up I N h0 step last
/-- a loop whose measure goes down -/
theorem h_dn {c : Ev Bool} {b i : Sv} {Q : Re → qE → qM → Prop} {u : Hd (sLoop c b i, Q)} (I : Nat → qE → qM → Prop) (n : Nat) (h0 : I n env M)
    (step : ∀ k e m, I k e m → hE c e m (fun x m1 => hI (x = true) (hS b e m1 (fun r e2 m2 => hL r e2 m2 i (fun e3 m3 => ∃ k', k' < k ∧ I k' e3 m3) Q ()) ()) (Q (.inl 0) e m1) ()) ()) : hS (sLoop c b i) env M Q u := by
  refine s_loop I n h0 ?_
  intro k e m hI0
  refine wE.mono (step k e m hI0) ?_
  intro x m1 h
  by_cases hx : x = true
  · have h := h.1 hx
    rw [if_pos hx]
    refine wS.mono h ?_
    intro r e2 m2 g
    match r, g with
    | .inl 0, g => exact g
    | .inl 2, g => exact g
    | .inl 1, g => exact g
    | .inl (n + 3), g => exact g.elim
    | .inr v, g => exact g
  · have h := h.2 hx
    rw [if_neg hx]
    exact h
end HELD
