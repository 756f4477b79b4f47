/-! MEMORY: what a write leaves; locals; loops that count -/
theorem tg_pI (M : qM) (a k : Nat) (x : Int32) : tg (pI M a k x) = tg M := rfl
theorem tg_pL (M : qM) (a k : Nat) (x : Int64) : tg (pL M a k x) = tg M := rfl
theorem tg_pR (M : qM) (a k : Nat) (x : Option Nat) : tg (pR M a k x) = tg M := rfl
theorem vr_pI (M : qM) (a k : Nat) (x : Int32) : vr (pI M a k x) = vr M := rfl
theorem vr_pL (M : qM) (a k : Nat) (x : Int64) : vr (pL M a k x) = vr M := rfl
theorem vl_pI (M : qM) (a k : Nat) (x : Int32) : vl (pI M a k x) = vl M := rfl
theorem vl_pR (M : qM) (a k : Nat) (x : Option Nat) : vl (pR M a k x) = vl M := rfl
theorem vi_pL (M : qM) (a k : Nat) (x : Int64) : vi (pL M a k x) = vi M := rfl
theorem vi_pR (M : qM) (a k : Nat) (x : Option Nat) : vi (pR M a k x) = vi M := rfl
theorem mN_pI (M : qM) (a k : Nat) (x : Int32) : mN (pI M a k x) = mN M := rfl
theorem mN_pL (M : qM) (a k : Nat) (x : Int64) : mN (pL M a k x) = mN M := rfl
theorem mN_pR (M : qM) (a k : Nat) (x : Option Nat) : mN (pR M a k x) = mN M := rfl
theorem mU_pI (M : qM) (a k : Nat) (x : Int32) : mU (pI M a k x) = mU M := rfl
theorem mU_pL (M : qM) (a k : Nat) (x : Int64) : mU (pL M a k x) = mU M := rfl
theorem mU_pR (M : qM) (a k : Nat) (x : Option Nat) : mU (pR M a k x) = mU M := rfl
theorem vi_pI (M : qM) (a k : Nat) (x : Int32) (b j : Nat) : vi (pI M a k x) b j = if b = a ∧ j = k then x else vi M b j := rfl
theorem vl_pL (M : qM) (a k : Nat) (x : Int64) (b j : Nat) : vl (pL M a k x) b j = if b = a ∧ j = k then x else vl M b j := rfl
theorem vr_pR (M : qM) (a k : Nat) (x : Option Nat) (b j : Nat) : vr (pR M a k x) b j = if b = a ∧ j = k then x else vr M b j := rfl
theorem vi_self (M : qM) (a k : Nat) (x : Int32) : vi (pI M a k x) a k = x := by simp [vi_pI]
theorem vl_self (M : qM) (a k : Nat) (x : Int64) : vl (pL M a k x) a k = x := by simp [vl_pL]
theorem vi_ne {M : qM} {a k b j : Nat} {x : Int32} (h : b ≠ a) : vi (pI M a k x) b j = vi M b j := by simp [vi_pI, h]
theorem vl_ne {M : qM} {a k b j : Nat} {x : Int64} (h : b ≠ a) : vl (pL M a k x) b j = vl M b j := by simp [vl_pL, h]
theorem vi_nk {M : qM} {a k b j : Nat} {x : Int32} (h : j ≠ k) : vi (pI M a k x) b j = vi M b j := by simp [vi_pI, h]
theorem vl_nk {M : qM} {a k b j : Nat} {x : Int64} (h : j ≠ k) : vl (pL M a k x) b j = vl M b j := by simp [vl_pL, h]
/-- only ints and longs of cells in S change -/
def Fr (S : Nat → Prop) (M M' : qM) : Prop := M'.1 = M.1 ∧ tg M' = tg M ∧ vr M' = vr M ∧ (∀ a, ¬ S a → ∀ j, vi M' a j = vi M a j) ∧ ∀ a, ¬ S a → ∀ j, vl M' a j = vl M a j
theorem Fr.refl (S : Nat → Prop) (M : qM) : Fr S M M := ⟨rfl, rfl, rfl, fun _ _ _ => rfl, fun _ _ _ => rfl⟩
theorem Fr.trans {S : Nat → Prop} {M M1 M2 : qM} (h : Fr S M M1) (g : Fr S M1 M2) : Fr S M M2 :=
  ⟨g.1.trans h.1, g.2.1.trans h.2.1, g.2.2.1.trans h.2.2.1, fun a ha j => (g.2.2.2.1 a ha j).trans (h.2.2.2.1 a ha j), fun a ha j => (g.2.2.2.2 a ha j).trans (h.2.2.2.2 a ha j)⟩
theorem Fr.mono {S S' : Nat → Prop} {M M1 : qM} (h : Fr S M M1) (k : ∀ a, S a → S' a) : Fr S' M M1 :=
  ⟨h.1, h.2.1, h.2.2.1, fun a ha j => h.2.2.2.1 a (fun q => ha (k a q)) j, fun a ha j => h.2.2.2.2 a (fun q => ha (k a q)) j⟩
theorem Fr.pI {S : Nat → Prop} {M M1 : qM} (h : Fr S M M1) {a : Nat} (k : Nat) (x : Int32) (ha : S a) : Fr S M (pI M1 a k x) :=
  ⟨h.1, h.2.1, h.2.2.1, fun b hb j => (vi_ne (fun e : b = a => hb (by rw [e]; exact ha))).trans (h.2.2.2.1 b hb j), h.2.2.2.2⟩
theorem Fr.pL {S : Nat → Prop} {M M1 : qM} (h : Fr S M M1) {a : Nat} (k : Nat) (x : Int64) (ha : S a) : Fr S M (pL M1 a k x) :=
  ⟨h.1, h.2.1, h.2.2.1, h.2.2.2.1, fun b hb j => (vl_ne (fun e : b = a => hb (by rw [e]; exact ha))).trans (h.2.2.2.2 b hb j)⟩
theorem Fr.tg {S : Nat → Prop} {M M1 : qM} (h : Fr S M M1) : tg M1 = tg M := h.2.1
theorem Fr.vr {S : Nat → Prop} {M M1 : qM} (h : Fr S M M1) : vr M1 = vr M := h.2.2.1
theorem Fr.vi {S : Nat → Prop} {M M1 : qM} (h : Fr S M M1) {a : Nat} (ha : ¬ S a) (j : Nat) : vi M1 a j = vi M a j := h.2.2.2.1 a ha j
theorem Fr.vl {S : Nat → Prop} {M M1 : qM} (h : Fr S M M1) {a : Nat} (ha : ¬ S a) (j : Nat) : vl M1 a j = vl M a j := h.2.2.2.2 a ha j
/-- locals -/
theorem argE_n : argE [] = [] := rfl
theorem argE_i (x : Int32) (l : List Value) : argE (.int x :: l) = .int x :: argE l := rfl
theorem argE_r (x : Nat) (l : List Value) : argE (.ref x :: l) = .ref x :: argE l := rfl
theorem argE_a (x : Nat) (l : List Value) : argE (.retAddr x :: l) = .retAddr x :: argE l := rfl
theorem argE_l (x : Int64) (l : List Value) : argE (.long x :: l) = .long x :: .null :: argE l := rfl
theorem sto_0 (a : Value) (l : qE) (v : Value) : sto (a :: l) 0 v = v :: l := rfl
theorem sto_s (a : Value) (l : qE) (i : Nat) (v : Value) : sto (a :: l) (i + 1) v = a :: sto l i v := by
  unfold sto
  by_cases h : i < l.length
  · rw [if_pos (show i + 1 < (a :: l).length by simp; omega), if_pos h]; rfl
  · rw [if_neg (show ¬ i + 1 < (a :: l).length by simp; omega), if_neg h]
    simp
theorem sto_n0 (v : Value) : sto [] 0 v = [v] := rfl
theorem sto_ns (i : Nat) (v : Value) : sto [] (i + 1) v = .null :: sto [] i v := by
  unfold sto
  simp [List.replicate_succ]
theorem isL_i (x : Int32) : isL (some (.int x)) = false := rfl
theorem isL_r (x : Nat) : isL (some (.ref x)) = false := rfl
theorem isL_a (x : Nat) : isL (some (.retAddr x)) = false := rfl
theorem isL_n : isL (some .null) = false := rfl
theorem isL_l (x : Int64) : isL (some (.long x)) = true := rfl
theorem isL_0 : isL none = false := rfl
theorem rcv_r (t b : Nat) (l : List Value) (M : qM) : rcv t (.ref b :: l) M = decide ((tg M b).1 = t) := rfl
theorem rcv_a (t i : Nat) (l : List Value) (M : qM) : rcv t (.retAddr i :: l) M = decide (t = 50 ∧ i < 40) := rfl
theorem w_eT {env : qE} {M : qM} {i : Nat} {Q : Nat → qM → Prop} : wE (eT i) env M Q = (match env[i]? with | some (.retAddr x) => Q x M | _ => False) := by
  unfold wE eT
  apply propext
  cases h : env[i]? with
  | none => exact ⟨fun ⟨_, _, h, _⟩ => (by cases h), fun h => h.elim⟩
  | some v => cases v <;> first | exact some1 | exact ⟨fun ⟨_, _, h, _⟩ => (by cases h), fun h => h.elim⟩
theorem s_sup {env : qE} {M : qM} {Q : Re → qE → qM → Prop} : wS sSup env M Q = (match (env[0]? : Option Value) with | some (Value.ref _) => Q (.inl 0) env M | _ => False) := by
  unfold wS sSup
  apply propext
  cases h : (env[0]? : Option Value) with
  | none => exact ⟨fun ⟨_, _, _, h, _⟩ => (by cases h), fun h => h.elim⟩
  | some v => cases v <;> first | exact some2 | exact ⟨fun ⟨_, _, _, h, _⟩ => (by cases h), fun h => h.elim⟩
/-- a loop that counts up to N -/
theorem s_up {env : qE} {M : qM} {c : Ev Bool} {b u : Sv} {Q : Re → qE → qM → Prop} (I : Nat → qE → qM → Prop) (N : Nat) (h0 : I 0 env M)
    (step : ∀ j e m, j < N → I j e m → wE c e m (fun x m1 => x = true ∧ wS b e m1 (fun r e2 m2 => match r with
      | .inl 0 => wS u e2 m2 (fun r3 e3 m3 => r3 = .inl 0 ∧ I (j + 1) e3 m3)
      | .inl 2 => wS u e2 m2 (fun r3 e3 m3 => r3 = .inl 0 ∧ I (j + 1) e3 m3)
      | .inl 1 => Q (.inl 0) e2 m2
      | .inr v => Q (.inr v) e2 m2
      | _ => False)))
    (last : ∀ e m, I N e m → wE c e m (fun x m1 => x = false ∧ Q (.inl 0) e m1)) : wS (sLoop c b u) env M Q := by
  refine s_loop (fun k e m => ∃ j, j + k = N ∧ I j e m) N ⟨0, Nat.zero_add _, h0⟩ ?_
  rintro k e m ⟨j, hj, hI⟩
  by_cases hk : k = 0
  · subst hk
    have : j = N := by omega
    subst this
    refine (last e m hI).mono ?_
    rintro x m1 ⟨rfl, q⟩
    exact q
  · refine (step j e m (by omega) hI).mono ?_
    rintro x m1 ⟨rfl, q⟩
    rw [if_pos rfl]
    refine q.mono ?_
    intro r e2 m2 h
    match r, h with
    | .inl 0, h => exact h.mono fun r3 e3 m3 z => ⟨z.1, k - 1, by omega, j + 1, by omega, z.2⟩
    | .inl 2, h => exact h.mono fun r3 e3 m3 z => ⟨z.1, k - 1, by omega, j + 1, by omega, z.2⟩
    | .inl 1, h => exact h
    | .inl (n + 3), h => exact h.elim
    | .inr v, h => exact h
theorem l_0 : (0 : Int32) = n32 0 := rfl
theorem l_1 : (1 : Int32) = n32 1 := rfl
theorem l_2 : (2 : Int32) = n32 2 := rfl
theorem l_3 : (3 : Int32) = n32 3 := rfl
theorem l_4 : (4 : Int32) = n32 4 := rfl
theorem l_5 : (5 : Int32) = n32 5 := rfl
theorem l_6 : (6 : Int32) = n32 6 := rfl
theorem l_7 : (7 : Int32) = n32 7 := rfl
theorem l_8 : (8 : Int32) = n32 8 := rfl
theorem l_9 : (9 : Int32) = n32 9 := rfl
theorem l_10 : (10 : Int32) = n32 10 := rfl
theorem l_12 : (12 : Int32) = n32 12 := rfl
theorem l_20 : (20 : Int32) = n32 20 := rfl
theorem l_23 : (23 : Int32) = n32 23 := rfl
theorem l_24 : (24 : Int32) = n32 24 := rfl
theorem l_25 : (25 : Int32) = n32 25 := rfl
theorem l_32 : (32 : Int32) = n32 32 := rfl
theorem l_48 : (48 : Int32) = n32 48 := rfl
theorem l_60 : (60 : Int32) = n32 60 := rfl
theorem l_100 : (100 : Int32) = n32 100 := rfl
theorem l_200 : (200 : Int32) = n32 200 := rfl
theorem l_255 : (255 : Int32) = n32 255 := rfl
theorem l_900 : (900 : Int32) = n32 900 := rfl
theorem n_zEq {a : Nat} (h : a < 2147483648) : zEq (n32 a) = decide (a = 0) := n_iEq (b := 0) h (by decide)
theorem n_zLt {a : Nat} (h : a < 2147483648) : zLt (n32 a) = false := (n_iLt (b := 0) h (by decide)).trans (by simp)
theorem n_zLe {a : Nat} (h : a < 2147483648) : zLe (n32 a) = decide (a ≤ 0) := n_iLe (b := 0) h (by decide)
theorem n_zGt {a : Nat} (h : a < 2147483648) : zGt (n32 a) = decide (0 < a) := n_iLt (a := 0) (by decide) h
theorem n_zGe {a : Nat} (h : a < 2147483648) : zGe (n32 a) = true := (n_iLe (a := 0) (by decide) h).trans (by simp)
