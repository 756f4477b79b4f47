/-! THE REFERENCE'S CLOTH -/
section
variable {M m : qM} {X C n : Nat} {A : Ab} {p : Pl} {lo : Lo}
theorem MdlT.mv (h : MdlT M X) (e1 : ∀ a, X ≤ a ∧ a ≤ X + 12 → tg m a = tg M a) (e2 : ∀ k, k = 5 ∨ 16 ≤ k → vr m X k = vr M X k) : MdlT m X := ⟨by rw [e1 _ (by omega)]; exact h.t, by rw [e2 _ (by decide)]; exact h.r5, by rw [e2 _ (by decide)]; exact h.r16, by rw [e2 _ (by decide)]; exact h.r17, by rw [e2 _ (by decide)]; exact h.r18, by rw [e2 _ (by decide)]; exact h.r21, by rw [e2 _ (by decide)]; exact h.r26, by rw [e2 _ (by decide)]; exact h.r27, by rw [e2 _ (by decide)]; exact h.r28, by rw [e2 _ (by decide)]; exact h.r29, by rw [e2 _ (by decide)]; exact h.r30, by rw [e2 _ (by decide)]; exact h.r31, by rw [e2 _ (by decide)]; exact h.r32, by rw [e1 _ (by omega)]; exact h.t1, by rw [e1 _ (by omega)]; exact h.t2, by rw [e1 _ (by omega)]; exact h.t3, by rw [e1 _ (by omega)]; exact h.t4, by rw [e1 _ (by omega)]; exact h.t5, by rw [e1 _ (by omega)]; exact h.t6, by rw [e1 _ (by omega)]; exact h.t7, by rw [e1 _ (by omega)]; exact h.t8, by rw [e1 _ (by omega)]; exact h.t9, by rw [e1 _ (by omega)]; exact h.t10, by rw [e1 _ (by omega)]; exact h.t11, by rw [e1 _ (by omega)]; exact h.t12⟩
theorem ClothT.mv (h : ClothT M C) (e1 : ∀ a, C ≤ a ∧ a ≤ C + 21 → tg m a = tg M a) (e2 : ∀ k, 9 ≤ k → vr m C k = vr M C k) : ClothT m C := ⟨by rw [e1 _ (by omega)]; exact h.t, by rw [e2 _ (by decide)]; exact h.r9, by rw [e2 _ (by decide)]; exact h.r10, by rw [e2 _ (by decide)]; exact h.r11, by rw [e2 _ (by decide)]; exact h.r12, by rw [e2 _ (by decide)]; exact h.r13, by rw [e2 _ (by decide)]; exact h.r14, by rw [e2 _ (by decide)]; exact h.r15, by rw [e2 _ (by decide)]; exact h.r16, by rw [e2 _ (by decide)]; exact h.r17, by rw [e2 _ (by decide)]; exact h.r18, by rw [e2 _ (by decide)]; exact h.r19, by rw [e2 _ (by decide)]; exact h.r20, by rw [e2 _ (by decide)]; exact h.r21, by rw [e2 _ (by decide)]; exact h.r22, by rw [e2 _ (by decide)]; exact h.r23, by rw [e2 _ (by decide)]; exact h.r24, by rw [e2 _ (by decide)]; exact h.r25, by rw [e2 _ (by decide)]; exact h.r26, by rw [e2 _ (by decide)]; exact h.r27, by rw [e2 _ (by decide)]; exact h.r28, by rw [e2 _ (by decide)]; exact h.r29, by rw [e1 _ (by omega)]; exact h.t1, by rw [e1 _ (by omega)]; exact h.t2, by rw [e1 _ (by omega)]; exact h.t3, by rw [e1 _ (by omega)]; exact h.t4, by rw [e1 _ (by omega)]; exact h.t5, by rw [e1 _ (by omega)]; exact h.t6, by rw [e1 _ (by omega)]; exact h.t7, by rw [e1 _ (by omega)]; exact h.t8, by rw [e1 _ (by omega)]; exact h.t9, by rw [e1 _ (by omega)]; exact h.t10, by rw [e1 _ (by omega)]; exact h.t11, by rw [e1 _ (by omega)]; exact h.t12, by rw [e1 _ (by omega)]; exact h.t13, by rw [e1 _ (by omega)]; exact h.t14, by rw [e1 _ (by omega)]; exact h.t15, by rw [e1 _ (by omega)]; exact h.t16, by rw [e1 _ (by omega)]; exact h.t17, by rw [e1 _ (by omega)]; exact h.t18, by rw [e1 _ (by omega)]; exact h.t19, by rw [e1 _ (by omega)]; exact h.t20, by rw [e1 _ (by omega)]; exact h.t21⟩
theorem LoW.mv {a o : Nat} (h : LoW M a o lo) (e : ∀ j, vi m a j = vi M a j) : LoW m a o lo := by
  unfold LoW at h ⊢
  simp only [e]
  exact h
/-- only the reference's own cells change; a cloth may be new -/
def GX (M : qM) (m : qM) (X : Nat) : Prop := (mN M ≤ mN m) ∧ (mN m ≤ mN M + 22) ∧ (mU M ≤ mU m) ∧ (mU m ≤ mU M + 204) ∧ (∀ a, a < mN M → tg m a = tg M a) ∧ (∀ a, a < mN M → ¬ (X ≤ a ∧ a ≤ X + 12) → ∀ k, vi m a k = vi M a k) ∧ (∀ a, a < mN M → ¬ (X ≤ a ∧ a ≤ X + 12) → ∀ k, vl m a k = vl M a k) ∧ (∀ a, a < mN M → a ≠ X → ∀ k, vr m a k = vr M a k)
theorem GX.n1 {M : qM} {m : qM} {X : Nat} (h : GX M m X) : mN M ≤ mN m := h.1
theorem GX.n2 {M : qM} {m : qM} {X : Nat} (h : GX M m X) : mN m ≤ mN M + 22 := h.2.1
theorem GX.u1 {M : qM} {m : qM} {X : Nat} (h : GX M m X) : mU M ≤ mU m := h.2.2.1
theorem GX.u2 {M : qM} {m : qM} {X : Nat} (h : GX M m X) : mU m ≤ mU M + 204 := h.2.2.2.1
theorem GX.kt {M : qM} {m : qM} {X : Nat} (h : GX M m X) : ∀ a, a < mN M → tg m a = tg M a := h.2.2.2.2.1
theorem GX.ki {M : qM} {m : qM} {X : Nat} (h : GX M m X) : ∀ a, a < mN M → ¬ (X ≤ a ∧ a ≤ X + 12) → ∀ k, vi m a k = vi M a k := h.2.2.2.2.2.1
theorem GX.kl {M : qM} {m : qM} {X : Nat} (h : GX M m X) : ∀ a, a < mN M → ¬ (X ≤ a ∧ a ≤ X + 12) → ∀ k, vl m a k = vl M a k := h.2.2.2.2.2.2.1
theorem GX.kr {M : qM} {m : qM} {X : Nat} (h : GX M m X) : ∀ a, a < mN M → a ≠ X → ∀ k, vr m a k = vr M a k := h.2.2.2.2.2.2.2
/-- what stands when the reading begins -/
def CB (M : qM) (m : qM) (X : Nat) (k : Nat) : Prop := (mN m = mN M + 22) ∧ (mU m = mU M + 204) ∧ (∀ a, a < mN M → tg m a = tg M a) ∧ (∀ a, a < mN M → a ≠ X → ∀ j, vi m a j = vi M a j) ∧ (∀ a, a < mN M → ∀ j, vl m a j = vl M a j) ∧ (∀ a, a < mN M → ∀ j, vr m a j = if a = X ∧ j = 4 then some (mN M) else vr M a j) ∧ (∀ j, j ≠ 0 ∧ j ≠ 6 ∧ j ≠ 7 ∧ j ≠ 8 ∧ j ≠ 9 ∧ j ≠ 13 → vi m X j = vi M X j) ∧ (vi m X 6 = n32 0) ∧ (vi m X 7 = n32 k) ∧ (vi m X 8 = n32 0) ∧ (vi m X 9 = n32 0) ∧ (vi m X 13 = n32 0) ∧ (ClothT m (mN M)) ∧ (∀ a, mN M ≤ a → a ≤ mN M + 21 → (∀ j, vi m a j = n32 0) ∧ ∀ j, vl m a j = 0)
theorem CB.nn {M : qM} {m : qM} {X : Nat} {k : Nat} (h : CB M m X k) : mN m = mN M + 22 := h.1
theorem CB.uu {M : qM} {m : qM} {X : Nat} {k : Nat} (h : CB M m X k) : mU m = mU M + 204 := h.2.1
theorem CB.kt {M : qM} {m : qM} {X : Nat} {k : Nat} (h : CB M m X k) : ∀ a, a < mN M → tg m a = tg M a := h.2.2.1
theorem CB.ki {M : qM} {m : qM} {X : Nat} {k : Nat} (h : CB M m X k) : ∀ a, a < mN M → a ≠ X → ∀ j, vi m a j = vi M a j := h.2.2.2.1
theorem CB.kl {M : qM} {m : qM} {X : Nat} {k : Nat} (h : CB M m X k) : ∀ a, a < mN M → ∀ j, vl m a j = vl M a j := h.2.2.2.2.1
theorem CB.kr {M : qM} {m : qM} {X : Nat} {k : Nat} (h : CB M m X k) : ∀ a, a < mN M → ∀ j, vr m a j = if a = X ∧ j = 4 then some (mN M) else vr M a j := h.2.2.2.2.2.1
theorem CB.x {M : qM} {m : qM} {X : Nat} {k : Nat} (h : CB M m X k) : ∀ j, j ≠ 0 ∧ j ≠ 6 ∧ j ≠ 7 ∧ j ≠ 8 ∧ j ≠ 9 ∧ j ≠ 13 → vi m X j = vi M X j := h.2.2.2.2.2.2.1
theorem CB.x6 {M : qM} {m : qM} {X : Nat} {k : Nat} (h : CB M m X k) : vi m X 6 = n32 0 := h.2.2.2.2.2.2.2.1
theorem CB.x7 {M : qM} {m : qM} {X : Nat} {k : Nat} (h : CB M m X k) : vi m X 7 = n32 k := h.2.2.2.2.2.2.2.2.1
theorem CB.x8 {M : qM} {m : qM} {X : Nat} {k : Nat} (h : CB M m X k) : vi m X 8 = n32 0 := h.2.2.2.2.2.2.2.2.2.1
theorem CB.x9 {M : qM} {m : qM} {X : Nat} {k : Nat} (h : CB M m X k) : vi m X 9 = n32 0 := h.2.2.2.2.2.2.2.2.2.2.1
theorem CB.x13 {M : qM} {m : qM} {X : Nat} {k : Nat} (h : CB M m X k) : vi m X 13 = n32 0 := h.2.2.2.2.2.2.2.2.2.2.2.1
theorem CB.D {M : qM} {m : qM} {X : Nat} {k : Nat} (h : CB M m X k) : ClothT m (mN M) := h.2.2.2.2.2.2.2.2.2.2.2.2.1
theorem CB.z {M : qM} {m : qM} {X : Nat} {k : Nat} (h : CB M m X k) : ∀ a, mN M ≤ a → a ≤ mN M + 21 → (∀ j, vi m a j = n32 0) ∧ ∀ j, vl m a j = 0 := h.2.2.2.2.2.2.2.2.2.2.2.2.2
def cbA (M : qM) (X k : Nat) : qM := pI (pI (pI (pI (pI M X 0 (n32 0)) X 7 (n32 k)) X 6 (n32 0)) X 8 (n32 0)) X 13 (n32 0)
theorem cb_new (hX : X + 13 < mN M) (k : Nat) : ∃ M1, (∀ (e : qE) (Q : Nat → qM → Prop) (u : Hd (nO 10 30 f_X9_init, Q)), hE (nO 10 30 f_X9_init) e (cbA M X k) Q u = hR (mN M) M1 Q ()) ∧ tg M1 X = tg M X ∧ CB M (pI (pR M1 X 4 (some (mN M))) X 9 (n32 0)) X k := by
  obtain ⟨M1, e1, n1, u1, k1, D1, z1⟩ := new_cloth (M := cbA M X k)
  have na : mN (cbA M X k) = mN M := rfl
  have ua : mU (cbA M X k) = mU M := rfl
  rw [na] at n1 k1 D1 z1
  rw [ua] at u1
  refine ⟨M1, e1, (k1 X (by omega)).1, n1, u1, fun a ha => (k1 a ha).1, fun a ha hx j => ?_, fun a ha j => (k1 a ha).2.2.1 j, fun a ha j => ?_, fun j hj => ?_, ?_, ?_, ?_, vi_self _ _ _ _, ?_, D1.mv (fun a _ => rfl) (fun j hj => ?_), fun a h1 h2 => ⟨fun j => ?_, (z1 a h1 h2).2⟩⟩
  · rw [vi_ne hx]
    show vi M1 a j = _
    rw [(k1 a ha).2.1]
    unfold cbA
    rw [vi_ne hx, vi_ne hx, vi_ne hx, vi_ne hx, vi_ne hx]
  · show vr (pR M1 X 4 (some (mN M))) a j = _
    rw [vr_pR, (k1 a ha).2.2.2]
    rfl
  · rw [vi_nk (by omega)]
    show vi M1 X j = _
    rw [(k1 X (by omega)).2.1]
    unfold cbA
    rw [vi_nk (by omega), vi_nk (by omega), vi_nk (by omega), vi_nk (by omega), vi_nk (by omega)]
  · rw [vi_nk (by decide)]
    show vi M1 X 6 = _
    rw [(k1 X (by omega)).2.1]
    unfold cbA
    rw [vi_nk (by decide), vi_nk (by decide), vi_self]
  · rw [vi_nk (by decide)]
    show vi M1 X 7 = _
    rw [(k1 X (by omega)).2.1]
    unfold cbA
    rw [vi_nk (by decide), vi_nk (by decide), vi_nk (by decide), vi_self]
  · rw [vi_nk (by decide)]
    show vi M1 X 8 = _
    rw [(k1 X (by omega)).2.1]
    unfold cbA
    rw [vi_nk (by decide), vi_self]
  · rw [vi_nk (by decide)]
    show vi M1 X 13 = _
    rw [(k1 X (by omega)).2.1]
    unfold cbA
    rw [vi_self]
  · show vr (pR M1 X 4 (some (mN M))) (mN M) j = _
    rw [vr_pR, if_neg (by omega)]
  · rw [vi_ne (by omega)]
    exact (z1 a h1 h2).1 j
theorem CB.T {k : Nat} (b : CB M m X k) (h : MdlT M X) (hX : X + 13 < mN M) : MdlT m X := h.mv (fun a ha => b.kt a (by omega)) (fun j hj => by rw [b.kr X (by omega), if_neg (by omega)])
theorem CB.mb {k : Nat} (b : CB M m X k) (h : Mdl M X C A) (hX : X + 13 < mN M) (hk : k ≤ aTl A) (h9 : aTl A ≤ 900) (hb : ∀ i, i < aTl A → isBy (aTp A i)) : MB m X (mN M) k (aTp A) := ⟨b.T h.T hX, by rw [b.kr X (by omega), if_pos ⟨rfl, rfl⟩], b.D, b.x7, by omega, fun i hi => by rw [b.ki (X + 1) (by omega) (by omega)]; exact h.tp i (by omega), fun i hi => hb i (by omega), hX⟩
theorem CB.qd {k : Nat} (b : CB M m X k) : MQd m (mN M) p0 lo0 [] (fun _ _ => false) := by
  have z : ∀ i, i ≤ 21 → ∀ j, vi m (mN M + i) j = n32 0 := fun i hi j => (b.z (mN M + i) (by omega) (by omega)).1 j
  have z0 : ∀ j, vi m (mN M) j = n32 0 := fun j => z 0 (by decide) j
  exact ⟨⟨z0 0, z0 1, z0 2, z0 3, z0 4, z0 5, z0 6, z 1 (by decide) 0, z 1 (by decide) 1, fun r hr => absurd hr (Nat.not_lt_zero _), fun r hr => absurd hr (Nat.not_lt_zero _), fun r hr => absurd hr (Nat.not_lt_zero _), fun r hr => absurd hr (Nat.not_lt_zero _), fun r hr => absurd hr (Nat.not_lt_zero _), fun r hr => absurd hr (Nat.not_lt_zero _), fun r hr => absurd hr (Nat.not_lt_zero _), fun r i hr => absurd hr (Nat.not_lt_zero _), fun r hr => absurd hr (Nat.not_lt_zero _), fun r hr => absurd hr (Nat.not_lt_zero _), fun r hr => absurd hr (Nat.not_lt_zero _)⟩, ⟨z0 7, Nat.zero_le _, fun i hi => absurd hi (Nat.not_lt_zero _), fun i hi => absurd hi (Nat.not_lt_zero _)⟩, z0 8, fun s c _ _ => z 2 (by decide) _, fun s i _ hi => absurd hi (Nat.not_lt_zero _), fun s _ => z 4 (by decide) _, fun s _ => z 5 (by decide) _, fun r _ => z 7 (by decide) _, fun r _ => z 8 (by decide) _, fun r _ _ => z 11 (by decide) _⟩
end
