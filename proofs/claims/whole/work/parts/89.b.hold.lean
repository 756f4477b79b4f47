/-! A PLAN GROWS: as class and reference hold it -/
theorem PlanAt.u_len {M m : qM} {P : Nat} {p : Pl} (h0 : PlanAt M P p) (f : Fr (fun a => P ≤ a ∧ a ≤ P + 12) M m) {v : Nat} (ha : v ≤ 60) (k : ∀ a j, ¬ (a = P ∧ j = 0) → vi m a j = vi M a j) (e : vi m P 0 = n32 v) : PlanAt m P (u2 p 0 0 v) := by
  have h := h0.V
  exact ⟨h0.T.fr f, ⟨e,
  by rw [k _ _ (by omega)]; exact h.sl ,
  by rw [k _ _ (by omega)]; exact h.rate ,
  by rw [k _ _ (by omega)]; exact h.h0 ,
  by rw [k _ _ (by omega)]; exact h.h1 ,
  by rw [k _ _ (by omega)]; exact h.cols ,
  by rw [k _ _ (by omega)]; exact h.kinds ,
  fun r hr => by rw [k _ _ (by omega)]; exact h.col r hr,
  fun r hr => by rw [k _ _ (by omega)]; exact h.tk r hr,
  fun r hr => by rw [k _ _ (by omega)]; exact h.par r hr,
  fun i => by rw [k _ _ (by omega)]; exact h.sm i,
  fun r hr i => by rw [k _ _ (by omega), pNx_u2 (by decide)]; exact h.nx r hr i,
  fun r hr i => by rw [k _ _ (by omega), pNx_u2 (by decide)]; exact h.pv r hr i,
  by rw [k _ _ (by omega)]; exact h.ms ,
  fun m hm => by rw [k _ _ (by omega)]; exact h.mk m hm,
  fun m hm => by rw [k _ _ (by omega)]; exact h.ml m hm,
  fun m i hm hi => by rw [k _ _ (by omega)]; exact h.mr m i hm hi,
  by rw [k _ _ (by omega)]; exact h.nn ,
  fun i hi => by rw [k _ _ (by omega)]; exact h.ns i hi,
  fun i hi => by rw [k _ _ (by omega)]; exact h.nf i hi,
  fun i hi => by rw [k _ _ (by omega)]; exact h.nt i hi⟩, h0.O.u_len ha⟩
theorem ClothV.u_len {M m : qM} {C : Nat} {p : Pl} (h : ClothV M C p) (O : PlOK p) {v : Nat} (ha : v ≤ 60) (k : ∀ a j, ¬ (a = C ∧ j = 0) → vi m a j = vi M a j) (e : vi m C 0 = n32 v) : ClothV m C (u2 p 0 0 v) := by
  exact ⟨e,
  by rw [k _ _ (by omega)]; exact h.sl ,
  by rw [k _ _ (by omega)]; exact h.cols ,
  by rw [k _ _ (by omega)]; exact h.kinds ,
  by rw [k _ _ (by omega)]; exact h.ms ,
  by rw [k _ _ (by omega)]; exact h.nn ,
  by rw [k _ _ (by omega)]; exact h.rate ,
  by rw [k _ _ (by omega)]; exact h.h0 ,
  by rw [k _ _ (by omega)]; exact h.h1 ,
  fun r hr => by rw [k _ _ (by omega)]; exact h.sm r hr,
  fun r hr => by rw [k _ _ (by omega)]; exact h.col r hr,
  fun r hr => by rw [k _ _ (by omega)]; exact h.tk r hr,
  fun r hr i => by rw [k _ _ (by omega), pNx_u2 (by decide)]; exact h.nx r hr i,
  fun r hr => by rw [k _ _ (by omega)]; exact h.par r hr,
  fun m hm => by rw [k _ _ (by omega)]; exact h.mk m hm,
  fun m hm => by rw [k _ _ (by omega)]; exact h.ml m hm,
  fun m i hm hi => by rw [k _ _ (by omega)]; exact h.mr m i hm hi,
  fun i hi => by rw [k _ _ (by omega)]; exact h.ns i hi,
  fun i hi => by rw [k _ _ (by omega)]; exact h.nf i hi,
  fun i hi => by rw [k _ _ (by omega)]; exact h.nt i hi⟩
theorem PlanAt.u_sl {M m : qM} {P : Nat} {p : Pl} (h0 : PlanAt M P p) (f : Fr (fun a => P ≤ a ∧ a ≤ P + 12) M m) {v : Nat} (ha : v ≤ 9) (k : ∀ a j, ¬ (a = P ∧ j = 1) → vi m a j = vi M a j) (e : vi m P 1 = n32 v) : PlanAt m P (u2 p 1 0 v) := by
  have h := h0.V
  exact ⟨h0.T.fr f, ⟨by rw [k _ _ (by omega)]; exact h.len ,
  e,
  by rw [k _ _ (by omega)]; exact h.rate ,
  by rw [k _ _ (by omega)]; exact h.h0 ,
  by rw [k _ _ (by omega)]; exact h.h1 ,
  by rw [k _ _ (by omega)]; exact h.cols ,
  by rw [k _ _ (by omega)]; exact h.kinds ,
  fun r hr => by rw [k _ _ (by omega)]; exact h.col r hr,
  fun r hr => by rw [k _ _ (by omega)]; exact h.tk r hr,
  fun r hr => by rw [k _ _ (by omega)]; exact h.par r hr,
  fun i => by rw [k _ _ (by omega)]; exact h.sm i,
  fun r hr i => by rw [k _ _ (by omega), pNx_u2 (by decide)]; exact h.nx r hr i,
  fun r hr i => by rw [k _ _ (by omega), pNx_u2 (by decide)]; exact h.pv r hr i,
  by rw [k _ _ (by omega)]; exact h.ms ,
  fun m hm => by rw [k _ _ (by omega)]; exact h.mk m hm,
  fun m hm => by rw [k _ _ (by omega)]; exact h.ml m hm,
  fun m i hm hi => by rw [k _ _ (by omega)]; exact h.mr m i hm hi,
  by rw [k _ _ (by omega)]; exact h.nn ,
  fun i hi => by rw [k _ _ (by omega)]; exact h.ns i hi,
  fun i hi => by rw [k _ _ (by omega)]; exact h.nf i hi,
  fun i hi => by rw [k _ _ (by omega)]; exact h.nt i hi⟩, h0.O.u_sl ha⟩
theorem ClothV.u_sl {M m : qM} {C : Nat} {p : Pl} (h : ClothV M C p) (O : PlOK p) {v : Nat} (ha : v ≤ 9) (k : ∀ a j, ¬ (a = C ∧ j = 1) → vi m a j = vi M a j) (e : vi m C 1 = n32 v) : ClothV m C (u2 p 1 0 v) := by
  exact ⟨by rw [k _ _ (by omega)]; exact h.len ,
  e,
  by rw [k _ _ (by omega)]; exact h.cols ,
  by rw [k _ _ (by omega)]; exact h.kinds ,
  by rw [k _ _ (by omega)]; exact h.ms ,
  by rw [k _ _ (by omega)]; exact h.nn ,
  by rw [k _ _ (by omega)]; exact h.rate ,
  by rw [k _ _ (by omega)]; exact h.h0 ,
  by rw [k _ _ (by omega)]; exact h.h1 ,
  fun r hr => by rw [k _ _ (by omega)]; exact h.sm r hr,
  fun r hr => by rw [k _ _ (by omega)]; exact h.col r hr,
  fun r hr => by rw [k _ _ (by omega)]; exact h.tk r hr,
  fun r hr i => by rw [k _ _ (by omega), pNx_u2 (by decide)]; exact h.nx r hr i,
  fun r hr => by rw [k _ _ (by omega)]; exact h.par r hr,
  fun m hm => by rw [k _ _ (by omega)]; exact h.mk m hm,
  fun m hm => by rw [k _ _ (by omega)]; exact h.ml m hm,
  fun m i hm hi => by rw [k _ _ (by omega)]; exact h.mr m i hm hi,
  fun i hi => by rw [k _ _ (by omega)]; exact h.ns i hi,
  fun i hi => by rw [k _ _ (by omega)]; exact h.nf i hi,
  fun i hi => by rw [k _ _ (by omega)]; exact h.nt i hi⟩
theorem PlanAt.u_rate {M m : qM} {P : Nat} {p : Pl} (h0 : PlanAt M P p) (f : Fr (fun a => P ≤ a ∧ a ≤ P + 12) M m) {v : Nat} (ha : v ≤ 5) (k : ∀ a j, ¬ (a = P ∧ j = 2) → vi m a j = vi M a j) (e : vi m P 2 = n32 v) : PlanAt m P (u2 p 2 0 v) := by
  have h := h0.V
  exact ⟨h0.T.fr f, ⟨by rw [k _ _ (by omega)]; exact h.len ,
  by rw [k _ _ (by omega)]; exact h.sl ,
  e,
  by rw [k _ _ (by omega)]; exact h.h0 ,
  by rw [k _ _ (by omega)]; exact h.h1 ,
  by rw [k _ _ (by omega)]; exact h.cols ,
  by rw [k _ _ (by omega)]; exact h.kinds ,
  fun r hr => by rw [k _ _ (by omega)]; exact h.col r hr,
  fun r hr => by rw [k _ _ (by omega)]; exact h.tk r hr,
  fun r hr => by rw [k _ _ (by omega)]; exact h.par r hr,
  fun i => by rw [k _ _ (by omega)]; exact h.sm i,
  fun r hr i => by rw [k _ _ (by omega), pNx_u2 (by decide)]; exact h.nx r hr i,
  fun r hr i => by rw [k _ _ (by omega), pNx_u2 (by decide)]; exact h.pv r hr i,
  by rw [k _ _ (by omega)]; exact h.ms ,
  fun m hm => by rw [k _ _ (by omega)]; exact h.mk m hm,
  fun m hm => by rw [k _ _ (by omega)]; exact h.ml m hm,
  fun m i hm hi => by rw [k _ _ (by omega)]; exact h.mr m i hm hi,
  by rw [k _ _ (by omega)]; exact h.nn ,
  fun i hi => by rw [k _ _ (by omega)]; exact h.ns i hi,
  fun i hi => by rw [k _ _ (by omega)]; exact h.nf i hi,
  fun i hi => by rw [k _ _ (by omega)]; exact h.nt i hi⟩, h0.O.u_rate ha⟩
theorem ClothV.u_rate {M m : qM} {C : Nat} {p : Pl} (h : ClothV M C p) (O : PlOK p) {v : Nat} (ha : v ≤ 5) (k : ∀ a j, ¬ (a = C ∧ j = 6) → vi m a j = vi M a j) (e : vi m C 6 = n32 v) : ClothV m C (u2 p 2 0 v) := by
  exact ⟨by rw [k _ _ (by omega)]; exact h.len ,
  by rw [k _ _ (by omega)]; exact h.sl ,
  by rw [k _ _ (by omega)]; exact h.cols ,
  by rw [k _ _ (by omega)]; exact h.kinds ,
  by rw [k _ _ (by omega)]; exact h.ms ,
  by rw [k _ _ (by omega)]; exact h.nn ,
  e,
  by rw [k _ _ (by omega)]; exact h.h0 ,
  by rw [k _ _ (by omega)]; exact h.h1 ,
  fun r hr => by rw [k _ _ (by omega)]; exact h.sm r hr,
  fun r hr => by rw [k _ _ (by omega)]; exact h.col r hr,
  fun r hr => by rw [k _ _ (by omega)]; exact h.tk r hr,
  fun r hr i => by rw [k _ _ (by omega), pNx_u2 (by decide)]; exact h.nx r hr i,
  fun r hr => by rw [k _ _ (by omega)]; exact h.par r hr,
  fun m hm => by rw [k _ _ (by omega)]; exact h.mk m hm,
  fun m hm => by rw [k _ _ (by omega)]; exact h.ml m hm,
  fun m i hm hi => by rw [k _ _ (by omega)]; exact h.mr m i hm hi,
  fun i hi => by rw [k _ _ (by omega)]; exact h.ns i hi,
  fun i hi => by rw [k _ _ (by omega)]; exact h.nf i hi,
  fun i hi => by rw [k _ _ (by omega)]; exact h.nt i hi⟩
theorem PlanAt.u_h0 {M m : qM} {P : Nat} {p : Pl} (h0 : PlanAt M P p) (f : Fr (fun a => P ≤ a ∧ a ≤ P + 12) M m) {v : Nat} (ha : v ≤ 9) (k : ∀ a j, ¬ (a = P + 1 ∧ j = 0) → vi m a j = vi M a j) (e : vi m (P + 1) 0 = n32 v) : PlanAt m P (u2 p 3 0 v) := by
  have h := h0.V
  exact ⟨h0.T.fr f, ⟨by rw [k _ _ (by omega)]; exact h.len ,
  by rw [k _ _ (by omega)]; exact h.sl ,
  by rw [k _ _ (by omega)]; exact h.rate ,
  e,
  by rw [k _ _ (by omega)]; exact h.h1 ,
  by rw [k _ _ (by omega)]; exact h.cols ,
  by rw [k _ _ (by omega)]; exact h.kinds ,
  fun r hr => by rw [k _ _ (by omega)]; exact h.col r hr,
  fun r hr => by rw [k _ _ (by omega)]; exact h.tk r hr,
  fun r hr => by rw [k _ _ (by omega)]; exact h.par r hr,
  fun i => by rw [k _ _ (by omega)]; exact h.sm i,
  fun r hr i => by rw [k _ _ (by omega), pNx_u2 (by decide)]; exact h.nx r hr i,
  fun r hr i => by rw [k _ _ (by omega), pNx_u2 (by decide)]; exact h.pv r hr i,
  by rw [k _ _ (by omega)]; exact h.ms ,
  fun m hm => by rw [k _ _ (by omega)]; exact h.mk m hm,
  fun m hm => by rw [k _ _ (by omega)]; exact h.ml m hm,
  fun m i hm hi => by rw [k _ _ (by omega)]; exact h.mr m i hm hi,
  by rw [k _ _ (by omega)]; exact h.nn ,
  fun i hi => by rw [k _ _ (by omega)]; exact h.ns i hi,
  fun i hi => by rw [k _ _ (by omega)]; exact h.nf i hi,
  fun i hi => by rw [k _ _ (by omega)]; exact h.nt i hi⟩, h0.O.u_h0 ha⟩
theorem ClothV.u_h0 {M m : qM} {C : Nat} {p : Pl} (h : ClothV M C p) (O : PlOK p) {v : Nat} (ha : v ≤ 9) (k : ∀ a j, ¬ (a = C + 1 ∧ j = 0) → vi m a j = vi M a j) (e : vi m (C + 1) 0 = n32 v) : ClothV m C (u2 p 3 0 v) := by
  exact ⟨by rw [k _ _ (by omega)]; exact h.len ,
  by rw [k _ _ (by omega)]; exact h.sl ,
  by rw [k _ _ (by omega)]; exact h.cols ,
  by rw [k _ _ (by omega)]; exact h.kinds ,
  by rw [k _ _ (by omega)]; exact h.ms ,
  by rw [k _ _ (by omega)]; exact h.nn ,
  by rw [k _ _ (by omega)]; exact h.rate ,
  e,
  by rw [k _ _ (by omega)]; exact h.h1 ,
  fun r hr => by rw [k _ _ (by omega)]; exact h.sm r hr,
  fun r hr => by rw [k _ _ (by omega)]; exact h.col r hr,
  fun r hr => by rw [k _ _ (by omega)]; exact h.tk r hr,
  fun r hr i => by rw [k _ _ (by omega), pNx_u2 (by decide)]; exact h.nx r hr i,
  fun r hr => by rw [k _ _ (by omega)]; exact h.par r hr,
  fun m hm => by rw [k _ _ (by omega)]; exact h.mk m hm,
  fun m hm => by rw [k _ _ (by omega)]; exact h.ml m hm,
  fun m i hm hi => by rw [k _ _ (by omega)]; exact h.mr m i hm hi,
  fun i hi => by rw [k _ _ (by omega)]; exact h.ns i hi,
  fun i hi => by rw [k _ _ (by omega)]; exact h.nf i hi,
  fun i hi => by rw [k _ _ (by omega)]; exact h.nt i hi⟩
theorem PlanAt.u_h1 {M m : qM} {P : Nat} {p : Pl} (h0 : PlanAt M P p) (f : Fr (fun a => P ≤ a ∧ a ≤ P + 12) M m) {v : Nat} (ha : v ≤ 9) (k : ∀ a j, ¬ (a = P + 1 ∧ j = 1) → vi m a j = vi M a j) (e : vi m (P + 1) 1 = n32 v) : PlanAt m P (u2 p 3 1 v) := by
  have h := h0.V
  exact ⟨h0.T.fr f, ⟨by rw [k _ _ (by omega)]; exact h.len ,
  by rw [k _ _ (by omega)]; exact h.sl ,
  by rw [k _ _ (by omega)]; exact h.rate ,
  by rw [k _ _ (by omega)]; exact h.h0 ,
  e,
  by rw [k _ _ (by omega)]; exact h.cols ,
  by rw [k _ _ (by omega)]; exact h.kinds ,
  fun r hr => by rw [k _ _ (by omega)]; exact h.col r hr,
  fun r hr => by rw [k _ _ (by omega)]; exact h.tk r hr,
  fun r hr => by rw [k _ _ (by omega)]; exact h.par r hr,
  fun i => by rw [k _ _ (by omega)]; exact h.sm i,
  fun r hr i => by rw [k _ _ (by omega), pNx_u2 (by decide)]; exact h.nx r hr i,
  fun r hr i => by rw [k _ _ (by omega), pNx_u2 (by decide)]; exact h.pv r hr i,
  by rw [k _ _ (by omega)]; exact h.ms ,
  fun m hm => by rw [k _ _ (by omega)]; exact h.mk m hm,
  fun m hm => by rw [k _ _ (by omega)]; exact h.ml m hm,
  fun m i hm hi => by rw [k _ _ (by omega)]; exact h.mr m i hm hi,
  by rw [k _ _ (by omega)]; exact h.nn ,
  fun i hi => by rw [k _ _ (by omega)]; exact h.ns i hi,
  fun i hi => by rw [k _ _ (by omega)]; exact h.nf i hi,
  fun i hi => by rw [k _ _ (by omega)]; exact h.nt i hi⟩, h0.O.u_h1 ha⟩
theorem ClothV.u_h1 {M m : qM} {C : Nat} {p : Pl} (h : ClothV M C p) (O : PlOK p) {v : Nat} (ha : v ≤ 9) (k : ∀ a j, ¬ (a = C + 1 ∧ j = 1) → vi m a j = vi M a j) (e : vi m (C + 1) 1 = n32 v) : ClothV m C (u2 p 3 1 v) := by
  exact ⟨by rw [k _ _ (by omega)]; exact h.len ,
  by rw [k _ _ (by omega)]; exact h.sl ,
  by rw [k _ _ (by omega)]; exact h.cols ,
  by rw [k _ _ (by omega)]; exact h.kinds ,
  by rw [k _ _ (by omega)]; exact h.ms ,
  by rw [k _ _ (by omega)]; exact h.nn ,
  by rw [k _ _ (by omega)]; exact h.rate ,
  by rw [k _ _ (by omega)]; exact h.h0 ,
  e,
  fun r hr => by rw [k _ _ (by omega)]; exact h.sm r hr,
  fun r hr => by rw [k _ _ (by omega)]; exact h.col r hr,
  fun r hr => by rw [k _ _ (by omega)]; exact h.tk r hr,
  fun r hr i => by rw [k _ _ (by omega), pNx_u2 (by decide)]; exact h.nx r hr i,
  fun r hr => by rw [k _ _ (by omega)]; exact h.par r hr,
  fun m hm => by rw [k _ _ (by omega)]; exact h.mk m hm,
  fun m hm => by rw [k _ _ (by omega)]; exact h.ml m hm,
  fun m i hm hi => by rw [k _ _ (by omega)]; exact h.mr m i hm hi,
  fun i hi => by rw [k _ _ (by omega)]; exact h.ns i hi,
  fun i hi => by rw [k _ _ (by omega)]; exact h.nf i hi,
  fun i hi => by rw [k _ _ (by omega)]; exact h.nt i hi⟩
theorem PlanAt.u_cs {M m : qM} {P : Nat} {p : Pl} (h0 : PlanAt M P p) (f : Fr (fun a => P ≤ a ∧ a ≤ P + 12) M m) (hc : pCs p < 2) (k : ∀ a j, ¬ (a = P ∧ j = 4) → vi m a j = vi M a j) (e : vi m P 4 = n32 (pCs p + 1)) : PlanAt m P (u2 p 4 0 (pCs p + 1)) := by
  have h := h0.V
  exact ⟨h0.T.fr f, ⟨by rw [k _ _ (by omega)]; exact h.len ,
  by rw [k _ _ (by omega)]; exact h.sl ,
  by rw [k _ _ (by omega)]; exact h.rate ,
  by rw [k _ _ (by omega)]; exact h.h0 ,
  by rw [k _ _ (by omega)]; exact h.h1 ,
  e,
  by rw [k _ _ (by omega)]; exact h.kinds ,
  fun r hr => by rw [k _ _ (by omega)]; exact h.col r hr,
  fun r hr => by rw [k _ _ (by omega)]; exact h.tk r hr,
  fun r hr => by rw [k _ _ (by omega)]; exact h.par r hr,
  fun i => by rw [k _ _ (by omega)]; exact h.sm i,
  fun r hr i => by rw [k _ _ (by omega), pNx_u2 (by decide)]; exact h.nx r hr i,
  fun r hr i => by rw [k _ _ (by omega), pNx_u2 (by decide)]; exact h.pv r hr i,
  by rw [k _ _ (by omega)]; exact h.ms ,
  fun m hm => by rw [k _ _ (by omega)]; exact h.mk m hm,
  fun m hm => by rw [k _ _ (by omega)]; exact h.ml m hm,
  fun m i hm hi => by rw [k _ _ (by omega)]; exact h.mr m i hm hi,
  by rw [k _ _ (by omega)]; exact h.nn ,
  fun i hi => by rw [k _ _ (by omega)]; exact h.ns i hi,
  fun i hi => by rw [k _ _ (by omega)]; exact h.nf i hi,
  fun i hi => by rw [k _ _ (by omega)]; exact h.nt i hi⟩, h0.O.u_cs hc⟩
theorem ClothV.u_cs {M m : qM} {C : Nat} {p : Pl} (h : ClothV M C p) (O : PlOK p) (hc : pCs p < 2) (k : ∀ a j, ¬ (a = C ∧ j = 2) → vi m a j = vi M a j) (e : vi m C 2 = n32 (pCs p + 1)) : ClothV m C (u2 p 4 0 (pCs p + 1)) := by
  exact ⟨by rw [k _ _ (by omega)]; exact h.len ,
  by rw [k _ _ (by omega)]; exact h.sl ,
  e,
  by rw [k _ _ (by omega)]; exact h.kinds ,
  by rw [k _ _ (by omega)]; exact h.ms ,
  by rw [k _ _ (by omega)]; exact h.nn ,
  by rw [k _ _ (by omega)]; exact h.rate ,
  by rw [k _ _ (by omega)]; exact h.h0 ,
  by rw [k _ _ (by omega)]; exact h.h1 ,
  fun r hr => by rw [k _ _ (by omega)]; exact h.sm r hr,
  fun r hr => by rw [k _ _ (by omega)]; exact h.col r hr,
  fun r hr => by rw [k _ _ (by omega)]; exact h.tk r hr,
  fun r hr i => by rw [k _ _ (by omega), pNx_u2 (by decide)]; exact h.nx r hr i,
  fun r hr => by rw [k _ _ (by omega)]; exact h.par r hr,
  fun m hm => by rw [k _ _ (by omega)]; exact h.mk m hm,
  fun m hm => by rw [k _ _ (by omega)]; exact h.ml m hm,
  fun m i hm hi => by rw [k _ _ (by omega)]; exact h.mr m i hm hi,
  fun i hi => by rw [k _ _ (by omega)]; exact h.ns i hi,
  fun i hi => by rw [k _ _ (by omega)]; exact h.nf i hi,
  fun i hi => by rw [k _ _ (by omega)]; exact h.nt i hi⟩
theorem PlanAt.u_row {M m : qM} {P : Nat} {p : Pl} (h0 : PlanAt M P p) (f : Fr (fun a => P ≤ a ∧ a ≤ P + 12) M m) {c t : Nat} {s : Bool} (hk : pK p < 8) (hc : c < pCs p) (ht : t ≤ 3) (k : ∀ a j, ¬ ((a = P + 2 ∧ j = pK p) ∨ (a = P + 3 ∧ j = pK p) ∨ (a = P + 4 ∧ j = pK p) ∨ (a = P + 5 ∧ j = pK p) ∨ (a = P + 6 ∧ j = pK p) ∨ (a = P ∧ j = 5) ∨ (a = P ∧ j = 9)) → vi m a j = vi M a j) (ecol : vi m (P + 2) (pK p) = n32 c) (etk : vi m (P + 3) (pK p) = n32 t) (epar : vi m (P + 4) (pK p) = n32 (pK p)) (enx : vi m (P + 5) (pK p) = n32 0) (epv : vi m (P + 6) (pK p) = n32 0) (ek : vi m P 5 = n32 (pK p + 1)) (es : ∀ i, bt (vi m P 9) i = if i = pK p then s else pSm p i) : PlanAt m P (plK p c t s) := by
  have h := h0.V
  have OO := h0.O
  exact ⟨h0.T.fr f, ⟨by rw [k _ _ (by omega)]; exact h.len ,
  by rw [k _ _ (by omega)]; exact h.sl ,
  by rw [k _ _ (by omega)]; exact h.rate ,
  by rw [k _ _ (by omega)]; exact h.h0 ,
  by rw [k _ _ (by omega)]; exact h.h1 ,
  by rw [k _ _ (by omega)]; exact h.cols ,
  by rw [plK_K]; exact ek,
  fun r hr => (by
    rw [plK_K] at hr
    by_cases e : r = pK p
    · subst e; rw [plK_col]; exact ecol
    · have hl : r < pK p := by omega
      rw [k _ _ (by omega)]
      show vi M (P + 2) r = n32 (plK p c t s 6 r)
      rw [plK_i hl (by decide)]
      exact h.col r hl),
  fun r hr => (by
    rw [plK_K] at hr
    by_cases e : r = pK p
    · subst e; rw [plK_tk]; exact etk
    · have hl : r < pK p := by omega
      rw [k _ _ (by omega)]
      show vi M (P + 3) r = n32 (plK p c t s 7 r)
      rw [plK_i hl (by decide)]
      exact h.tk r hl),
  fun r hr => (by
    rw [plK_K] at hr
    by_cases e : r = pK p
    · subst e; rw [plK_par]; exact epar
    · have hl : r < pK p := by omega
      rw [k _ _ (by omega)]
      show vi M (P + 4) r = n32 (plK p c t s 8 r)
      rw [plK_i hl (by decide)]
      exact h.par r hl),
  fun i => by rw [plK_sm]; exact es i,
  fun r hr i => (by
    rw [plK_K] at hr
    rw [plK_nx]
    by_cases e : r = pK p
    · subst e
      rw [enx, show n32 0 = 0 from rfl, bt_zero]
      cases w : pNx p (pK p) i
      · rfl
      · have := OO.nx _ _ w; omega
    · rw [k _ _ (by omega)]
      exact h.nx r (by omega) i),
  fun r hr i => (by
    rw [plK_K] at hr
    rw [plK_nx]
    by_cases e : r = pK p
    · subst e
      rw [epv, show n32 0 = 0 from rfl, bt_zero]
      cases w : pNx p i (pK p)
      · rfl
      · have := OO.nx _ _ w; omega
    · rw [k _ _ (by omega)]
      exact h.pv r (by omega) i),
  by rw [k _ _ (by omega)]; exact h.ms ,
  fun m hm => by rw [k _ _ (by omega)]; exact h.mk m hm,
  fun m hm => by rw [k _ _ (by omega)]; exact h.ml m hm,
  fun m i hm hi => by rw [k _ _ (by omega)]; exact h.mr m i hm hi,
  by rw [k _ _ (by omega)]; exact h.nn ,
  fun i hi => by rw [k _ _ (by omega)]; exact h.ns i hi,
  fun i hi => by rw [k _ _ (by omega)]; exact h.nf i hi,
  fun i hi => by rw [k _ _ (by omega)]; exact h.nt i hi⟩, h0.O.u_row hk hc ht⟩
theorem ClothV.u_row {M m : qM} {C : Nat} {p : Pl} (h : ClothV M C p) (O : PlOK p) {c t : Nat} {s : Bool} (hk : pK p < 8) (hc : c < pCs p) (ht : t ≤ 3) (k : ∀ a j, ¬ ((a = C + 9 ∧ j = pK p) ∨ (a = C + 10 ∧ j = pK p) ∨ (a = C + 12 ∧ j = pK p) ∨ (a = C + 6 ∧ j = pK p) ∨ (a = C ∧ j = 3)) → vi m a j = vi M a j) (ecol : vi m (C + 9) (pK p) = n32 c) (etk : vi m (C + 10) (pK p) = n32 t) (epar : vi m (C + 12) (pK p) = n32 (pK p)) (enx : vi m (C + 11) (pK p) = n32 0) (ek : vi m C 3 = n32 (pK p + 1)) (es : vi m (C + 6) (pK p) = b2i s) : ClothV m C (plK p c t s) := by
  have OO := O
  exact ⟨by rw [k _ _ (by omega)]; exact h.len ,
  by rw [k _ _ (by omega)]; exact h.sl ,
  by rw [k _ _ (by omega)]; exact h.cols ,
  by rw [plK_K]; exact ek,
  by rw [k _ _ (by omega)]; exact h.ms ,
  by rw [k _ _ (by omega)]; exact h.nn ,
  by rw [k _ _ (by omega)]; exact h.rate ,
  by rw [k _ _ (by omega)]; exact h.h0 ,
  by rw [k _ _ (by omega)]; exact h.h1 ,
  fun r hr => (by
    rw [plK_K] at hr
    rw [plK_sm]
    by_cases e : r = pK p
    · rw [if_pos e, e]; exact es
    · rw [if_neg e, k _ _ (by omega)]
      exact h.sm r (by omega)),
  fun r hr => (by
    rw [plK_K] at hr
    by_cases e : r = pK p
    · subst e; rw [plK_col]; exact ecol
    · have hl : r < pK p := by omega
      rw [k _ _ (by omega)]
      show vi M (C + 9) r = n32 (plK p c t s 6 r)
      rw [plK_i hl (by decide)]
      exact h.col r hl),
  fun r hr => (by
    rw [plK_K] at hr
    by_cases e : r = pK p
    · subst e; rw [plK_tk]; exact etk
    · have hl : r < pK p := by omega
      rw [k _ _ (by omega)]
      show vi M (C + 10) r = n32 (plK p c t s 7 r)
      rw [plK_i hl (by decide)]
      exact h.tk r hl),
  fun r hr i => (by
    rw [plK_K] at hr
    rw [plK_nx]
    by_cases e : r = pK p
    · subst e
      rw [enx, show n32 0 = 0 from rfl, bt_zero]
      cases w : pNx p (pK p) i
      · rfl
      · have := OO.nx _ _ w; omega
    · rw [k _ _ (by omega)]
      exact h.nx r (by omega) i),
  fun r hr => (by
    rw [plK_K] at hr
    by_cases e : r = pK p
    · subst e; rw [plK_par]; exact epar
    · have hl : r < pK p := by omega
      rw [k _ _ (by omega)]
      show vi M (C + 12) r = n32 (plK p c t s 8 r)
      rw [plK_i hl (by decide)]
      exact h.par r hl),
  fun m hm => by rw [k _ _ (by omega)]; exact h.mk m hm,
  fun m hm => by rw [k _ _ (by omega)]; exact h.ml m hm,
  fun m i hm hi => by rw [k _ _ (by omega)]; exact h.mr m i hm hi,
  fun i hi => by rw [k _ _ (by omega)]; exact h.ns i hi,
  fun i hi => by rw [k _ _ (by omega)]; exact h.nf i hi,
  fun i hi => by rw [k _ _ (by omega)]; exact h.nt i hi⟩
theorem PlanAt.u_nx {M m : qM} {P : Nat} {p : Pl} (h0 : PlanAt M P p) (f : Fr (fun a => P ≤ a ∧ a ≤ P + 12) M m) {l : Nat} {S : Nat → Bool} (hl : l < pK p) (hS : ∀ i, S i = true → i < pK p) (k : ∀ a j, ¬ ((a = P + 5 ∧ j = l) ∨ a = P + 6) → vi m a j = vi M a j) (e1 : ∀ i, bt (vi m (P + 5) l) i = S i) (e2 : ∀ r, r < pK p → ∀ i, bt (vi m (P + 6) r) i = if i = l then S r else pNx p i r) : PlanAt m P (plN p l S) := by
  have h := h0.V
  exact ⟨h0.T.fr f, ⟨by rw [k _ _ (by omega)]; show _ = n32 (plN p l S 0 0); rw [plN_f (by decide)]; exact h.len,
  by rw [k _ _ (by omega)]; show _ = n32 (plN p l S 1 0); rw [plN_f (by decide)]; exact h.sl,
  by rw [k _ _ (by omega)]; show _ = n32 (plN p l S 2 0); rw [plN_f (by decide)]; exact h.rate,
  by rw [k _ _ (by omega)]; show _ = n32 (plN p l S 3 0); rw [plN_f (by decide)]; exact h.h0,
  by rw [k _ _ (by omega)]; show _ = n32 (plN p l S 3 1); rw [plN_f (by decide)]; exact h.h1,
  by rw [k _ _ (by omega)]; show _ = n32 (plN p l S 4 0); rw [plN_f (by decide)]; exact h.cols,
  by rw [k _ _ (by omega)]; show _ = n32 (plN p l S 5 0); rw [plN_f (by decide)]; exact h.kinds,
  fun r hr => by have hr : r < plN p l S 5 0 := hr; rw [plN_f (by decide)] at hr; rw [k _ _ (by omega)]; show _ = n32 (plN p l S 6 r); rw [plN_f (by decide)]; exact h.col r hr,
  fun r hr => by have hr : r < plN p l S 5 0 := hr; rw [plN_f (by decide)] at hr; rw [k _ _ (by omega)]; show _ = n32 (plN p l S 7 r); rw [plN_f (by decide)]; exact h.tk r hr,
  fun r hr => by have hr : r < plN p l S 5 0 := hr; rw [plN_f (by decide)] at hr; rw [k _ _ (by omega)]; show _ = n32 (plN p l S 8 r); rw [plN_f (by decide)]; exact h.par r hr,
  fun i => by rw [k _ _ (by omega)]; show _ = decide (plN p l S 9 i = 1); rw [plN_f (by decide)]; exact h.sm i,
  fun r hr i => by
    have hr : r < plN p l S 5 0 := hr
    rw [plN_f (by decide)] at hr
    rw [plN_nx]
    by_cases e : r = l
    · rw [if_pos e, e]; exact e1 i
    · rw [if_neg e, k _ _ (by omega)]; exact h.nx r hr i,
  fun r hr i => by
    have hr : r < plN p l S 5 0 := hr
    rw [plN_f (by decide)] at hr
    rw [plN_nx]
    exact e2 r hr i,
  by rw [k _ _ (by omega)]; show _ = n32 (plN p l S 12 0); rw [plN_f (by decide)]; exact h.ms,
  fun m hm => by have hm : m < plN p l S 12 0 := hm; rw [plN_f (by decide)] at hm; rw [k _ _ (by omega)]; show _ = n32 (plN p l S 13 m); rw [plN_f (by decide)]; exact h.mk m hm,
  fun m hm => by have hm : m < plN p l S 12 0 := hm; rw [plN_f (by decide)] at hm; rw [k _ _ (by omega)]; show _ = n32 (plN p l S 14 m); rw [plN_f (by decide)]; exact h.ml m hm,
  fun m i hm hi => by have hm : m < plN p l S 12 0 := hm; have hi : i < plN p l S 14 m := hi; rw [plN_f (by decide)] at hm hi; rw [k _ _ (by omega)]; show _ = n32 (plN p l S 15 (m * 4 + i)); rw [plN_f (by decide)]; exact h.mr m i hm hi,
  by rw [k _ _ (by omega)]; show _ = n32 (plN p l S 16 0); rw [plN_f (by decide)]; exact h.nn,
  fun i hi => by have hi : i < plN p l S 16 0 := hi; rw [plN_f (by decide)] at hi; rw [k _ _ (by omega)]; show _ = n32 (plN p l S 17 i); rw [plN_f (by decide)]; exact h.ns i hi,
  fun i hi => by have hi : i < plN p l S 16 0 := hi; rw [plN_f (by decide)] at hi; rw [k _ _ (by omega)]; show _ = n32 (plN p l S 18 i); rw [plN_f (by decide)]; exact h.nf i hi,
  fun i hi => by have hi : i < plN p l S 16 0 := hi; rw [plN_f (by decide)] at hi; rw [k _ _ (by omega)]; show _ = n32 (plN p l S 19 i); rw [plN_f (by decide)]; exact h.nt i hi⟩, h0.O.u_nx hl hS⟩
theorem ClothV.u_nx {M m : qM} {C : Nat} {p : Pl} (h : ClothV M C p) (O : PlOK p) {l : Nat} {S : Nat → Bool} (hl : l < pK p) (hS : ∀ i, S i = true → i < pK p) (k : ∀ a j, ¬ (a = C + 11 ∧ j = l) → vi m a j = vi M a j) (e1 : ∀ i, bt (vi m (C + 11) l) i = S i) : ClothV m C (plN p l S) := by
  exact ⟨by rw [k _ _ (by omega)]; show _ = n32 (plN p l S 0 0); rw [plN_f (by decide)]; exact h.len,
  by rw [k _ _ (by omega)]; show _ = n32 (plN p l S 1 0); rw [plN_f (by decide)]; exact h.sl,
  by rw [k _ _ (by omega)]; show _ = n32 (plN p l S 4 0); rw [plN_f (by decide)]; exact h.cols,
  by rw [k _ _ (by omega)]; show _ = n32 (plN p l S 5 0); rw [plN_f (by decide)]; exact h.kinds,
  by rw [k _ _ (by omega)]; show _ = n32 (plN p l S 12 0); rw [plN_f (by decide)]; exact h.ms,
  by rw [k _ _ (by omega)]; show _ = n32 (plN p l S 16 0); rw [plN_f (by decide)]; exact h.nn,
  by rw [k _ _ (by omega)]; show _ = n32 (plN p l S 2 0); rw [plN_f (by decide)]; exact h.rate,
  by rw [k _ _ (by omega)]; show _ = n32 (plN p l S 3 0); rw [plN_f (by decide)]; exact h.h0,
  by rw [k _ _ (by omega)]; show _ = n32 (plN p l S 3 1); rw [plN_f (by decide)]; exact h.h1,
  fun r hr => by have hr : r < plN p l S 5 0 := hr; rw [plN_f (by decide)] at hr; rw [k _ _ (by omega)]; show _ = b2i (decide (plN p l S 9 r = 1)); rw [plN_f (by decide)]; exact h.sm r hr,
  fun r hr => by have hr : r < plN p l S 5 0 := hr; rw [plN_f (by decide)] at hr; rw [k _ _ (by omega)]; show _ = n32 (plN p l S 6 r); rw [plN_f (by decide)]; exact h.col r hr,
  fun r hr => by have hr : r < plN p l S 5 0 := hr; rw [plN_f (by decide)] at hr; rw [k _ _ (by omega)]; show _ = n32 (plN p l S 7 r); rw [plN_f (by decide)]; exact h.tk r hr,
  fun r hr i => by
    have hr : r < plN p l S 5 0 := hr
    rw [plN_f (by decide)] at hr
    rw [plN_nx]
    by_cases e : r = l
    · rw [if_pos e, e]; exact e1 i
    · rw [if_neg e, k _ _ (by omega)]; exact h.nx r hr i,
  fun r hr => by have hr : r < plN p l S 5 0 := hr; rw [plN_f (by decide)] at hr; rw [k _ _ (by omega)]; show _ = n32 (plN p l S 8 r); rw [plN_f (by decide)]; exact h.par r hr,
  fun m hm => by have hm : m < plN p l S 12 0 := hm; rw [plN_f (by decide)] at hm; rw [k _ _ (by omega)]; show _ = n32 (plN p l S 13 m); rw [plN_f (by decide)]; exact h.mk m hm,
  fun m hm => by have hm : m < plN p l S 12 0 := hm; rw [plN_f (by decide)] at hm; rw [k _ _ (by omega)]; show _ = n32 (plN p l S 14 m); rw [plN_f (by decide)]; exact h.ml m hm,
  fun m i hm hi => by have hm : m < plN p l S 12 0 := hm; have hi : i < plN p l S 14 m := hi; rw [plN_f (by decide)] at hm hi; rw [k _ _ (by omega)]; show _ = n32 (plN p l S 15 (m * 4 + i)); rw [plN_f (by decide)]; exact h.mr m i hm hi,
  fun i hi => by have hi : i < plN p l S 16 0 := hi; rw [plN_f (by decide)] at hi; rw [k _ _ (by omega)]; show _ = n32 (plN p l S 17 i); rw [plN_f (by decide)]; exact h.ns i hi,
  fun i hi => by have hi : i < plN p l S 16 0 := hi; rw [plN_f (by decide)] at hi; rw [k _ _ (by omega)]; show _ = n32 (plN p l S 18 i); rw [plN_f (by decide)]; exact h.nf i hi,
  fun i hi => by have hi : i < plN p l S 16 0 := hi; rw [plN_f (by decide)] at hi; rw [k _ _ (by omega)]; show _ = n32 (plN p l S 19 i); rw [plN_f (by decide)]; exact h.nt i hi⟩
theorem PlanAt.u_an {M m : qM} {P : Nat} {p : Pl} (h0 : PlanAt M P p) (f : Fr (fun a => P ≤ a ∧ a ≤ P + 12) M m) {x y : Nat} (ha : x < pK p) (hb : y < pK p) (k : ∀ a j, ¬ (a = P + 4 ∧ (j = x ∨ j = y)) → vi m a j = vi M a j) (e1 : x ≠ y → vi m (P + 4) x = n32 y) (e2 : vi m (P + 4) y = n32 x) : PlanAt m P (plA p x y) := by
  have h := h0.V
  exact ⟨h0.T.fr f, ⟨by rw [k _ _ (by omega)]; exact h.len ,
  by rw [k _ _ (by omega)]; exact h.sl ,
  by rw [k _ _ (by omega)]; exact h.rate ,
  by rw [k _ _ (by omega)]; exact h.h0 ,
  by rw [k _ _ (by omega)]; exact h.h1 ,
  by rw [k _ _ (by omega)]; exact h.cols ,
  by rw [k _ _ (by omega)]; exact h.kinds ,
  fun r hr => by rw [k _ _ (by omega)]; exact h.col r hr,
  fun r hr => by rw [k _ _ (by omega)]; exact h.tk r hr,
  fun r hr => by
    show vi m (P + 4) r = n32 (u2 (u2 p 8 x y) 8 y x 8 r)
    by_cases e : r = y
    · subst e; rw [u2_s]; exact e2
    · rw [u2_i e]
      by_cases e' : r = x
      · subst e'; rw [u2_s]; exact e1 e
      · rw [u2_i e', k _ _ (by omega)]; exact h.par r hr,
  fun i => by rw [k _ _ (by omega)]; exact h.sm i,
  fun r hr i => by rw [k _ _ (by omega), plA, pNx_u2 (by decide), pNx_u2 (by decide)]; exact h.nx r hr i,
  fun r hr i => by rw [k _ _ (by omega), plA, pNx_u2 (by decide), pNx_u2 (by decide)]; exact h.pv r hr i,
  by rw [k _ _ (by omega)]; exact h.ms ,
  fun m hm => by rw [k _ _ (by omega)]; exact h.mk m hm,
  fun m hm => by rw [k _ _ (by omega)]; exact h.ml m hm,
  fun m i hm hi => by rw [k _ _ (by omega)]; exact h.mr m i hm hi,
  by rw [k _ _ (by omega)]; exact h.nn ,
  fun i hi => by rw [k _ _ (by omega)]; exact h.ns i hi,
  fun i hi => by rw [k _ _ (by omega)]; exact h.nf i hi,
  fun i hi => by rw [k _ _ (by omega)]; exact h.nt i hi⟩, h0.O.u_an ha hb⟩
theorem ClothV.u_an {M m : qM} {C : Nat} {p : Pl} (h : ClothV M C p) (O : PlOK p) {x y : Nat} (ha : x < pK p) (hb : y < pK p) (k : ∀ a j, ¬ (a = C + 12 ∧ (j = x ∨ j = y)) → vi m a j = vi M a j) (e1 : x ≠ y → vi m (C + 12) x = n32 y) (e2 : vi m (C + 12) y = n32 x) : ClothV m C (plA p x y) := by
  exact ⟨by rw [k _ _ (by omega)]; exact h.len ,
  by rw [k _ _ (by omega)]; exact h.sl ,
  by rw [k _ _ (by omega)]; exact h.cols ,
  by rw [k _ _ (by omega)]; exact h.kinds ,
  by rw [k _ _ (by omega)]; exact h.ms ,
  by rw [k _ _ (by omega)]; exact h.nn ,
  by rw [k _ _ (by omega)]; exact h.rate ,
  by rw [k _ _ (by omega)]; exact h.h0 ,
  by rw [k _ _ (by omega)]; exact h.h1 ,
  fun r hr => by rw [k _ _ (by omega)]; exact h.sm r hr,
  fun r hr => by rw [k _ _ (by omega)]; exact h.col r hr,
  fun r hr => by rw [k _ _ (by omega)]; exact h.tk r hr,
  fun r hr i => by rw [k _ _ (by omega), plA, pNx_u2 (by decide), pNx_u2 (by decide)]; exact h.nx r hr i,
  fun r hr => by
    show vi m (C + 12) r = n32 (u2 (u2 p 8 x y) 8 y x 8 r)
    by_cases e : r = y
    · subst e; rw [u2_s]; exact e2
    · rw [u2_i e]
      by_cases e' : r = x
      · subst e'; rw [u2_s]; exact e1 e
      · rw [u2_i e', k _ _ (by omega)]; exact h.par r hr,
  fun m hm => by rw [k _ _ (by omega)]; exact h.mk m hm,
  fun m hm => by rw [k _ _ (by omega)]; exact h.ml m hm,
  fun m i hm hi => by rw [k _ _ (by omega)]; exact h.mr m i hm hi,
  fun i hi => by rw [k _ _ (by omega)]; exact h.ns i hi,
  fun i hi => by rw [k _ _ (by omega)]; exact h.nf i hi,
  fun i hi => by rw [k _ _ (by omega)]; exact h.nt i hi⟩
theorem PlanAt.u_no {M m : qM} {P : Nat} {p : Pl} (h0 : PlanAt M P p) (f : Fr (fun a => P ≤ a ∧ a ≤ P + 12) M m) {s x y : Nat} (hn : pN p < 6) (hs : s < 2) (ha : x < 24) (hb : y < 24) (k : ∀ a j, ¬ ((a = P + 10 ∧ j = pN p) ∨ (a = P + 11 ∧ j = pN p) ∨ (a = P + 12 ∧ j = pN p) ∨ (a = P ∧ j = 16)) → vi m a j = vi M a j) (ens : vi m (P + 10) (pN p) = n32 s) (enf : vi m (P + 11) (pN p) = n32 x) (ent : vi m (P + 12) (pN p) = n32 y) (en : vi m P 16 = n32 (pN p + 1)) : PlanAt m P (plO p s x y) := by
  have h := h0.V
  exact ⟨h0.T.fr f, ⟨by rw [k _ _ (by omega)]; exact h.len ,
  by rw [k _ _ (by omega)]; exact h.sl ,
  by rw [k _ _ (by omega)]; exact h.rate ,
  by rw [k _ _ (by omega)]; exact h.h0 ,
  by rw [k _ _ (by omega)]; exact h.h1 ,
  by rw [k _ _ (by omega)]; exact h.cols ,
  by rw [k _ _ (by omega)]; exact h.kinds ,
  fun r hr => by rw [k _ _ (by omega)]; exact h.col r hr,
  fun r hr => by rw [k _ _ (by omega)]; exact h.tk r hr,
  fun r hr => by rw [k _ _ (by omega)]; exact h.par r hr,
  fun i => by rw [k _ _ (by omega)]; exact h.sm i,
  fun r hr i => by rw [k _ _ (by omega), plO_nx]; exact h.nx r hr i,
  fun r hr i => by rw [k _ _ (by omega), plO_nx]; exact h.pv r hr i,
  by rw [k _ _ (by omega)]; exact h.ms ,
  fun m hm => by rw [k _ _ (by omega)]; exact h.mk m hm,
  fun m hm => by rw [k _ _ (by omega)]; exact h.ml m hm,
  fun m i hm hi => by rw [k _ _ (by omega)]; exact h.mr m i hm hi,
  by rw [plO_n]; exact en,
  fun i hi => by
    rw [plO_n] at hi
    rw [plO_ns]
    by_cases e : i = pN p
    · rw [if_pos e, e]; exact ens
    · rw [if_neg e, k _ _ (by omega)]; exact h.ns i (by omega),
  fun i hi => by
    rw [plO_n] at hi
    rw [plO_nf]
    by_cases e : i = pN p
    · rw [if_pos e, e]; exact enf
    · rw [if_neg e, k _ _ (by omega)]; exact h.nf i (by omega),
  fun i hi => by
    rw [plO_n] at hi
    rw [plO_nt]
    by_cases e : i = pN p
    · rw [if_pos e, e]; exact ent
    · rw [if_neg e, k _ _ (by omega)]; exact h.nt i (by omega)⟩, h0.O.u_no hn hs ha hb⟩
theorem ClothV.u_no {M m : qM} {C : Nat} {p : Pl} (h : ClothV M C p) (O : PlOK p) {s x y : Nat} (hn : pN p < 6) (hs : s < 2) (ha : x < 24) (hb : y < 24) (k : ∀ a j, ¬ ((a = C + 16 ∧ j = pN p) ∨ (a = C + 17 ∧ j = pN p) ∨ (a = C + 18 ∧ j = pN p) ∨ (a = C ∧ j = 5)) → vi m a j = vi M a j) (ens : vi m (C + 16) (pN p) = n32 s) (enf : vi m (C + 17) (pN p) = n32 x) (ent : vi m (C + 18) (pN p) = n32 y) (en : vi m C 5 = n32 (pN p + 1)) : ClothV m C (plO p s x y) := by
  exact ⟨by rw [k _ _ (by omega)]; exact h.len ,
  by rw [k _ _ (by omega)]; exact h.sl ,
  by rw [k _ _ (by omega)]; exact h.cols ,
  by rw [k _ _ (by omega)]; exact h.kinds ,
  by rw [k _ _ (by omega)]; exact h.ms ,
  by rw [plO_n]; exact en,
  by rw [k _ _ (by omega)]; exact h.rate ,
  by rw [k _ _ (by omega)]; exact h.h0 ,
  by rw [k _ _ (by omega)]; exact h.h1 ,
  fun r hr => by rw [k _ _ (by omega)]; exact h.sm r hr,
  fun r hr => by rw [k _ _ (by omega)]; exact h.col r hr,
  fun r hr => by rw [k _ _ (by omega)]; exact h.tk r hr,
  fun r hr i => by rw [k _ _ (by omega), plO_nx]; exact h.nx r hr i,
  fun r hr => by rw [k _ _ (by omega)]; exact h.par r hr,
  fun m hm => by rw [k _ _ (by omega)]; exact h.mk m hm,
  fun m hm => by rw [k _ _ (by omega)]; exact h.ml m hm,
  fun m i hm hi => by rw [k _ _ (by omega)]; exact h.mr m i hm hi,
  fun i hi => by
    rw [plO_n] at hi
    rw [plO_ns]
    by_cases e : i = pN p
    · rw [if_pos e, e]; exact ens
    · rw [if_neg e, k _ _ (by omega)]; exact h.ns i (by omega),
  fun i hi => by
    rw [plO_n] at hi
    rw [plO_nf]
    by_cases e : i = pN p
    · rw [if_pos e, e]; exact enf
    · rw [if_neg e, k _ _ (by omega)]; exact h.nf i (by omega),
  fun i hi => by
    rw [plO_n] at hi
    rw [plO_nt]
    by_cases e : i = pN p
    · rw [if_pos e, e]; exact ent
    · rw [if_neg e, k _ _ (by omega)]; exact h.nt i (by omega)⟩
theorem PlanAt.u_mo {M m : qM} {P : Nat} {p : Pl} (h0 : PlanAt M P p) (f : Fr (fun a => P ≤ a ∧ a ≤ P + 12) M m) {q l : Nat} {R : Nat → Nat} (hm : pMs p < 4) (hk : q < 4) (hl : l ≤ 4) (hR : ∀ i, i < l → R i < pK p) (k : ∀ a j, ¬ ((a = P + 7 ∧ j = pMs p) ∨ (a = P + 8 ∧ j = pMs p) ∨ (a = P + 9 ∧ pMs p * 4 ≤ j ∧ j < pMs p * 4 + 4) ∨ (a = P ∧ j = 12)) → vi m a j = vi M a j) (emk : vi m (P + 7) (pMs p) = n32 q) (eml : vi m (P + 8) (pMs p) = n32 l) (emr : ∀ i, i < l → vi m (P + 9) (pMs p * 4 + i) = n32 (R i)) (ems : vi m P 12 = n32 (pMs p + 1)) : PlanAt m P (plM p q l R) := by
  have h := h0.V
  have OO := h0.O
  exact ⟨h0.T.fr f, ⟨by rw [k _ _ (by omega)]; show _ = n32 (plM p q l R 0 0); rw [plM_f (by decide)]; exact h.len,
  by rw [k _ _ (by omega)]; show _ = n32 (plM p q l R 1 0); rw [plM_f (by decide)]; exact h.sl,
  by rw [k _ _ (by omega)]; show _ = n32 (plM p q l R 2 0); rw [plM_f (by decide)]; exact h.rate,
  by rw [k _ _ (by omega)]; show _ = n32 (plM p q l R 3 0); rw [plM_f (by decide)]; exact h.h0,
  by rw [k _ _ (by omega)]; show _ = n32 (plM p q l R 3 1); rw [plM_f (by decide)]; exact h.h1,
  by rw [k _ _ (by omega)]; show _ = n32 (plM p q l R 4 0); rw [plM_f (by decide)]; exact h.cols,
  by rw [k _ _ (by omega)]; show _ = n32 (plM p q l R 5 0); rw [plM_f (by decide)]; exact h.kinds,
  fun r hr => by have hr : r < plM p q l R 5 0 := hr; rw [plM_f (by decide)] at hr; rw [k _ _ (by omega)]; show _ = n32 (plM p q l R 6 r); rw [plM_f (by decide)]; exact h.col r hr,
  fun r hr => by have hr : r < plM p q l R 5 0 := hr; rw [plM_f (by decide)] at hr; rw [k _ _ (by omega)]; show _ = n32 (plM p q l R 7 r); rw [plM_f (by decide)]; exact h.tk r hr,
  fun r hr => by have hr : r < plM p q l R 5 0 := hr; rw [plM_f (by decide)] at hr; rw [k _ _ (by omega)]; show _ = n32 (plM p q l R 8 r); rw [plM_f (by decide)]; exact h.par r hr,
  fun i => by rw [k _ _ (by omega)]; show _ = decide (plM p q l R 9 i = 1); rw [plM_f (by decide)]; exact h.sm i,
  fun r hr i => by have hr : r < plM p q l R 5 0 := hr; rw [plM_f (by decide)] at hr; rw [k _ _ (by omega), plM_nx]; exact h.nx r hr i,
  fun r hr i => by have hr : r < plM p q l R 5 0 := hr; rw [plM_f (by decide)] at hr; rw [k _ _ (by omega), plM_nx]; exact h.pv r hr i,
  by rw [plM_ms]; exact ems,
  fun m hm => by rw [plM_ms] at hm; rw [plM_mk]; by_cases e : m = pMs p; (rw [if_pos e, e]; exact emk); (rw [if_neg e, k _ _ (by omega)]; exact h.mk m (by omega)),
  fun m hm => by rw [plM_ms] at hm; rw [plM_ml]; by_cases e : m = pMs p; (rw [if_pos e, e]; exact eml); (rw [if_neg e, k _ _ (by omega)]; exact h.ml m (by omega)),
  fun m i hm hi => by
    rw [plM_ms] at hm
    rw [plM_ml] at hi
    by_cases e : m = pMs p
    · rw [if_pos e] at hi
      rw [plM_mr p q l R (by omega), if_pos e, e]; exact emr i hi
    · rw [if_neg e] at hi
      have := OO.ml m (by omega)
      rw [plM_mr p q l R (by omega), if_neg e, k _ _ (by omega)]; exact h.mr m i (by omega) hi,
  by rw [k _ _ (by omega)]; show _ = n32 (plM p q l R 16 0); rw [plM_f (by decide)]; exact h.nn,
  fun i hi => by have hi : i < plM p q l R 16 0 := hi; rw [plM_f (by decide)] at hi; rw [k _ _ (by omega)]; show _ = n32 (plM p q l R 17 i); rw [plM_f (by decide)]; exact h.ns i hi,
  fun i hi => by have hi : i < plM p q l R 16 0 := hi; rw [plM_f (by decide)] at hi; rw [k _ _ (by omega)]; show _ = n32 (plM p q l R 18 i); rw [plM_f (by decide)]; exact h.nf i hi,
  fun i hi => by have hi : i < plM p q l R 16 0 := hi; rw [plM_f (by decide)] at hi; rw [k _ _ (by omega)]; show _ = n32 (plM p q l R 19 i); rw [plM_f (by decide)]; exact h.nt i hi⟩, h0.O.u_mo hm hk hl hR⟩
theorem ClothV.u_mo {M m : qM} {C : Nat} {p : Pl} (h : ClothV M C p) (O : PlOK p) {q l : Nat} {R : Nat → Nat} (hm : pMs p < 4) (hk : q < 4) (hl : l ≤ 4) (hR : ∀ i, i < l → R i < pK p) (k : ∀ a j, ¬ ((a = C + 13 ∧ j = pMs p) ∨ (a = C + 14 ∧ j = pMs p) ∨ (a = C + 15 ∧ 4 * pMs p ≤ j ∧ j < 4 * pMs p + 4) ∨ (a = C ∧ j = 4)) → vi m a j = vi M a j) (emk : vi m (C + 13) (pMs p) = n32 q) (eml : vi m (C + 14) (pMs p) = n32 l) (emr : ∀ i, i < l → vi m (C + 15) (4 * pMs p + i) = n32 (R i)) (ems : vi m C 4 = n32 (pMs p + 1)) : ClothV m C (plM p q l R) := by
  have OO := O
  exact ⟨by rw [k _ _ (by omega)]; show _ = n32 (plM p q l R 0 0); rw [plM_f (by decide)]; exact h.len,
  by rw [k _ _ (by omega)]; show _ = n32 (plM p q l R 1 0); rw [plM_f (by decide)]; exact h.sl,
  by rw [k _ _ (by omega)]; show _ = n32 (plM p q l R 4 0); rw [plM_f (by decide)]; exact h.cols,
  by rw [k _ _ (by omega)]; show _ = n32 (plM p q l R 5 0); rw [plM_f (by decide)]; exact h.kinds,
  by rw [plM_ms]; exact ems,
  by rw [k _ _ (by omega)]; show _ = n32 (plM p q l R 16 0); rw [plM_f (by decide)]; exact h.nn,
  by rw [k _ _ (by omega)]; show _ = n32 (plM p q l R 2 0); rw [plM_f (by decide)]; exact h.rate,
  by rw [k _ _ (by omega)]; show _ = n32 (plM p q l R 3 0); rw [plM_f (by decide)]; exact h.h0,
  by rw [k _ _ (by omega)]; show _ = n32 (plM p q l R 3 1); rw [plM_f (by decide)]; exact h.h1,
  fun r hr => by have hr : r < plM p q l R 5 0 := hr; rw [plM_f (by decide)] at hr; rw [k _ _ (by omega)]; show _ = b2i (decide (plM p q l R 9 r = 1)); rw [plM_f (by decide)]; exact h.sm r hr,
  fun r hr => by have hr : r < plM p q l R 5 0 := hr; rw [plM_f (by decide)] at hr; rw [k _ _ (by omega)]; show _ = n32 (plM p q l R 6 r); rw [plM_f (by decide)]; exact h.col r hr,
  fun r hr => by have hr : r < plM p q l R 5 0 := hr; rw [plM_f (by decide)] at hr; rw [k _ _ (by omega)]; show _ = n32 (plM p q l R 7 r); rw [plM_f (by decide)]; exact h.tk r hr,
  fun r hr i => by have hr : r < plM p q l R 5 0 := hr; rw [plM_f (by decide)] at hr; rw [k _ _ (by omega), plM_nx]; exact h.nx r hr i,
  fun r hr => by have hr : r < plM p q l R 5 0 := hr; rw [plM_f (by decide)] at hr; rw [k _ _ (by omega)]; show _ = n32 (plM p q l R 8 r); rw [plM_f (by decide)]; exact h.par r hr,
  fun m hm => by rw [plM_ms] at hm; rw [plM_mk]; by_cases e : m = pMs p; (rw [if_pos e, e]; exact emk); (rw [if_neg e, k _ _ (by omega)]; exact h.mk m (by omega)),
  fun m hm => by rw [plM_ms] at hm; rw [plM_ml]; by_cases e : m = pMs p; (rw [if_pos e, e]; exact eml); (rw [if_neg e, k _ _ (by omega)]; exact h.ml m (by omega)),
  fun m i hm hi => by
    rw [plM_ms] at hm
    rw [plM_ml] at hi
    by_cases e : m = pMs p
    · rw [if_pos e] at hi
      rw [plM_mr p q l R (by omega), if_pos e, e]; exact emr i hi
    · rw [if_neg e] at hi
      have := OO.ml m (by omega)
      rw [plM_mr p q l R (by omega), if_neg e, k _ _ (by omega)]; exact h.mr m i (by omega) hi,
  fun i hi => by have hi : i < plM p q l R 16 0 := hi; rw [plM_f (by decide)] at hi; rw [k _ _ (by omega)]; show _ = n32 (plM p q l R 17 i); rw [plM_f (by decide)]; exact h.ns i hi,
  fun i hi => by have hi : i < plM p q l R 16 0 := hi; rw [plM_f (by decide)] at hi; rw [k _ _ (by omega)]; show _ = n32 (plM p q l R 18 i); rw [plM_f (by decide)]; exact h.nf i hi,
  fun i hi => by have hi : i < plM p q l R 16 0 := hi; rw [plM_f (by decide)] at hi; rw [k _ _ (by omega)]; show _ = n32 (plM p q l R 19 i); rw [plM_f (by decide)]; exact h.nt i hi⟩
