/-! A PLAN GROWS: bounds, and as class and reference hold it -/
theorem pNx_u2 {p : Pl} {f i v : Nat} (hf : f < 100) (r s : Nat) : pNx (u2 p f i v) r s = pNx p r s := by
  unfold pNx u2
  rw [if_neg (by omega)]
theorem pSm_u2 {p : Pl} {f i v : Nat} (hf : f ≠ 9) (r : Nat) : pSm (u2 p f i v) r = pSm p r := by
  unfold pSm u2
  rw [if_neg (by omega)]
theorem u2_s {p : Pl} (f i v : Nat) : u2 p f i v f i = v := by unfold u2; rw [if_pos ⟨rfl, rfl⟩]
theorem u2_i {p : Pl} {f i v j : Nat} (h : j ≠ i) : u2 p f i v f j = p f j := by unfold u2; rw [if_neg (fun z => h z.2)]
theorem u2_f {p : Pl} {f i v g j : Nat} (h : g ≠ f) : u2 p f i v g j = p g j := by unfold u2; rw [if_neg (fun z => h z.1)]
theorem plN_nx (p : Pl) (l : Nat) (S : Nat → Bool) (r i : Nat) : pNx (plN p l S) r i = if r = l then S i else pNx p r i := by
  unfold pNx plN
  by_cases e : r = l
  · subst e
    rw [if_pos rfl, if_pos rfl]
    cases S i <;> rfl
  · rw [if_neg e, if_neg (by omega)]
theorem plN_f {p : Pl} {l : Nat} {S : Nat → Bool} {f : Nat} (h : f < 100) : plN p l S f = p f := by
  funext i
  unfold plN
  rw [if_neg (by omega)]
theorem plM_f {p : Pl} {k l : Nat} {R : Nat → Nat} {f : Nat} (h : f ≠ 12 ∧ f ≠ 13 ∧ f ≠ 14 ∧ f ≠ 15) : plM p k l R f = p f := by
  funext i
  unfold plM
  rw [if_neg h.2.2.2, u2_f h.1, u2_f h.2.2.1, u2_f h.2.1]
theorem plM_nx (p : Pl) (k l : Nat) (R : Nat → Nat) (r i : Nat) : pNx (plM p k l R) r i = pNx p r i := by
  unfold pNx
  rw [plM_f (by omega)]
theorem plK_nx (p : Pl) (c t : Nat) (s : Bool) (r i : Nat) : pNx (plK p c t s) r i = pNx p r i := by
  unfold plK
  rw [pNx_u2 (by decide), pNx_u2 (by decide), pNx_u2 (by decide), pNx_u2 (by decide), pNx_u2 (by decide)]
theorem plK_sm (p : Pl) (c t : Nat) (s : Bool) (i : Nat) : pSm (plK p c t s) i = if i = pK p then s else pSm p i := by
  unfold plK
  rw [pSm_u2 (by decide)]
  by_cases e : i = pK p
  · subst e
    unfold pSm
    rw [u2_s, if_pos rfl]
    cases s <;> rfl
  · unfold pSm
    rw [u2_i e, if_neg e, u2_f (by decide), u2_f (by decide), u2_f (by decide)]
theorem plK_i {p : Pl} {c t : Nat} {s : Bool} {f i : Nat} (h : i < pK p) (hf : f ≠ 5) : plK p c t s f i = p f i := by
  unfold plK
  rw [u2_f hf]
  by_cases e9 : f = 9
  · subst e9; rw [u2_i (by omega), u2_f (by decide), u2_f (by decide), u2_f (by decide)]
  · rw [u2_f e9]
    by_cases e8 : f = 8
    · subst e8; rw [u2_i (by omega), u2_f (by decide), u2_f (by decide)]
    · rw [u2_f e8]
      by_cases e7 : f = 7
      · subst e7; rw [u2_i (by omega), u2_f (by decide)]
      · rw [u2_f e7]
        by_cases e6 : f = 6
        · subst e6; rw [u2_i (by omega)]
        · rw [u2_f e6]
theorem PlOK.u_len {p : Pl} (h : PlOK p) {a : Nat} (ha : a ≤ 60) : PlOK (u2 p 0 0 a) := ⟨h.kinds, h.cols, h.col, h.tk, h.par, (show u2 p 0 0 a 0 0 ≤ 60 by rw [u2_s]; exact ha), h.sl, h.rate, h.hand, fun r s z => h.nx r s (by rw [pNx_u2 (p := p) (f := 0) (i := 0) (v := a) (by decide) r s] at z; exact z), fun r z => h.sm r (by rw [pSm_u2 (by decide)] at z; exact z), h.ms, h.mk, h.ml, h.mr, h.nn, h.ns, h.nf, h.nt⟩
theorem PlOK.u_sl {p : Pl} (h : PlOK p) {a : Nat} (ha : a ≤ 9) : PlOK (u2 p 1 0 a) := ⟨h.kinds, h.cols, h.col, h.tk, h.par, h.len, (show u2 p 1 0 a 1 0 ≤ 9 by rw [u2_s]; exact ha), h.rate, h.hand, fun r s z => h.nx r s (by rw [pNx_u2 (p := p) (f := 1) (i := 0) (v := a) (by decide) r s] at z; exact z), fun r z => h.sm r (by rw [pSm_u2 (by decide)] at z; exact z), h.ms, h.mk, h.ml, h.mr, h.nn, h.ns, h.nf, h.nt⟩
theorem PlOK.u_rate {p : Pl} (h : PlOK p) {a : Nat} (ha : a ≤ 5) : PlOK (u2 p 2 0 a) := ⟨h.kinds, h.cols, h.col, h.tk, h.par, h.len, h.sl, (show u2 p 2 0 a 2 0 ≤ 5 by rw [u2_s]; exact ha), h.hand, fun r s z => h.nx r s (by rw [pNx_u2 (p := p) (f := 2) (i := 0) (v := a) (by decide) r s] at z; exact z), fun r z => h.sm r (by rw [pSm_u2 (by decide)] at z; exact z), h.ms, h.mk, h.ml, h.mr, h.nn, h.ns, h.nf, h.nt⟩
theorem PlOK.u_h0 {p : Pl} (h : PlOK p) {a : Nat} (ha : a ≤ 9) : PlOK (u2 p 3 0 a) := ⟨h.kinds, h.cols, h.col, h.tk, h.par, h.len, h.sl, h.rate, fun s hs => (show u2 p 3 0 a 3 s ≤ 9 by by_cases e : s = 0; (subst e; rw [u2_s]; exact ha); (rw [u2_i e]; exact h.hand s hs)), fun r s z => h.nx r s (by rw [pNx_u2 (p := p) (f := 3) (i := 0) (v := a) (by decide) r s] at z; exact z), fun r z => h.sm r (by rw [pSm_u2 (by decide)] at z; exact z), h.ms, h.mk, h.ml, h.mr, h.nn, h.ns, h.nf, h.nt⟩
theorem PlOK.u_h1 {p : Pl} (h : PlOK p) {a : Nat} (ha : a ≤ 9) : PlOK (u2 p 3 1 a) := ⟨h.kinds, h.cols, h.col, h.tk, h.par, h.len, h.sl, h.rate, fun s hs => (show u2 p 3 1 a 3 s ≤ 9 by by_cases e : s = 1; (subst e; rw [u2_s]; exact ha); (rw [u2_i e]; exact h.hand s hs)), fun r s z => h.nx r s (by rw [pNx_u2 (p := p) (f := 3) (i := 1) (v := a) (by decide) r s] at z; exact z), fun r z => h.sm r (by rw [pSm_u2 (by decide)] at z; exact z), h.ms, h.mk, h.ml, h.mr, h.nn, h.ns, h.nf, h.nt⟩
theorem PlOK.u_cs {p : Pl} (h : PlOK p) (hc : pCs p < 2) : PlOK (u2 p 4 0 (pCs p + 1)) := ⟨h.kinds, (show u2 p 4 0 (pCs p + 1) 4 0 ≤ 2 by rw [u2_s]; omega), fun r hr => (show pCol p r < u2 p 4 0 (pCs p + 1) 4 0 by rw [u2_s]; exact Nat.lt_succ_of_lt (h.col r hr)), h.tk, h.par, h.len, h.sl, h.rate, h.hand, fun r s z => h.nx r s (by rw [pNx_u2 (p := p) (f := 4) (i := 0) (v := (pCs p + 1)) (by decide) r s] at z; exact z), fun r z => h.sm r (by rw [pSm_u2 (by decide)] at z; exact z), h.ms, h.mk, h.ml, h.mr, h.nn, h.ns, h.nf, h.nt⟩
theorem plK_K (p : Pl) (c t : Nat) (s : Bool) : pK (plK p c t s) = pK p + 1 := by unfold pK plK; rw [u2_s]; rfl
theorem plK_col (p : Pl) (c t : Nat) (s : Bool) : pCol (plK p c t s) (pK p) = c := by
  unfold pCol plK
  rw [u2_f (by decide), u2_f (by decide), u2_f (by decide), u2_f (by decide), u2_s]
theorem plK_tk (p : Pl) (c t : Nat) (s : Bool) : pTk (plK p c t s) (pK p) = t := by
  unfold pTk plK
  rw [u2_f (by decide), u2_f (by decide), u2_f (by decide), u2_s]
theorem plK_par (p : Pl) (c t : Nat) (s : Bool) : pPar (plK p c t s) (pK p) = pK p := by
  unfold pPar plK
  rw [u2_f (by decide), u2_f (by decide), u2_s]
theorem PlOK.u_row {p : Pl} (h : PlOK p) {c t : Nat} {s : Bool} (hk : pK p < 8) (hc : c < pCs p) (ht : t ≤ 3) : PlOK (plK p c t s) := ⟨(by rw [plK_K]; omega), h.cols, fun r hr => (by
    rw [plK_K] at hr
    by_cases e : r = pK p
    · subst e; rw [plK_col]; exact hc
    · have hl : r < pK p := by omega
      have := h.col r hl
      show plK p c t s 6 r < pCs p
      rw [plK_i hl (by decide)]
      exact this), fun r hr => (by
    rw [plK_K] at hr
    by_cases e : r = pK p
    · subst e; rw [plK_tk]; exact ht
    · have hl : r < pK p := by omega
      have := h.tk r hl
      show plK p c t s 7 r ≤ 3
      rw [plK_i hl (by decide)]
      exact this), fun r hr => (by
    rw [plK_K] at hr
    by_cases e : r = pK p
    · subst e; rw [plK_par, plK_K]; omega
    · have hl : r < pK p := by omega
      have := h.par r hl
      show plK p c t s 8 r < pK (plK p c t s)
      rw [plK_i hl (by decide)]
      rw [plK_K]; exact Nat.lt_succ_of_lt this), h.len, h.sl, h.rate, h.hand, fun r x z => by rw [plK_nx] at z; have := h.nx r x z; rw [plK_K]; omega, fun r z => by
    rw [plK_sm] at z
    rw [plK_K]
    by_cases e : r = pK p
    · omega
    · rw [if_neg e] at z; have := h.sm r z; omega, h.ms, h.mk, h.ml, fun m i hm hi => Nat.lt_of_lt_of_le (h.mr m i hm hi) (by rw [plK_K]; omega), h.nn, h.ns, h.nf, h.nt⟩
theorem PlOK.u_nx {p : Pl} (h : PlOK p) {l : Nat} {S : Nat → Bool} (hl : l < pK p) (hS : ∀ i, S i = true → i < pK p) : PlOK (plN p l S) := ⟨(show plN p l S 5 0 ≤ 8 by rw [plN_f (by decide)]; exact h.kinds), (show plN p l S 4 0 ≤ 2 by rw [plN_f (by decide)]; exact h.cols), fun r hr => (show plN p l S 6 r < plN p l S 4 0 by rw [plN_f (by decide), plN_f (by decide)]; exact h.col r (by have hr : r < plN p l S 5 0 := hr; rw [plN_f (by decide)] at hr; exact hr)), fun r hr => (show plN p l S 7 r ≤ 3 by rw [plN_f (by decide)]; exact h.tk r (by have hr : r < plN p l S 5 0 := hr; rw [plN_f (by decide)] at hr; exact hr)), fun r hr => (show plN p l S 8 r < plN p l S 5 0 by rw [plN_f (by decide), plN_f (by decide)]; exact h.par r (by have hr : r < plN p l S 5 0 := hr; rw [plN_f (by decide)] at hr; exact hr)), (show plN p l S 0 0 ≤ 60 by rw [plN_f (by decide)]; exact h.len), (show plN p l S 1 0 ≤ 9 by rw [plN_f (by decide)]; exact h.sl), (show plN p l S 2 0 ≤ 5 by rw [plN_f (by decide)]; exact h.rate), fun s hs => (show plN p l S 3 s ≤ 9 by rw [plN_f (by decide)]; exact h.hand s hs), fun r s z => by
    rw [plN_nx] at z
    show r < plN p l S 5 0 ∧ s < plN p l S 5 0
    rw [plN_f (by decide)]
    by_cases e : r = l
    · rw [if_pos e] at z; exact ⟨Nat.lt_of_le_of_lt (Nat.le_of_eq e) hl, hS s z⟩
    · rw [if_neg e] at z; exact h.nx r s z, fun r z => by have z : decide (plN p l S 9 r = 1) = true := z; rw [plN_f (by decide)] at z; show r < plN p l S 5 0; rw [plN_f (by decide)]; exact h.sm r z, (show plN p l S 12 0 ≤ 4 by rw [plN_f (by decide)]; exact h.ms), fun m hm => (show plN p l S 13 m < 4 by rw [plN_f (by decide)]; exact h.mk m (by have hm : m < plN p l S 12 0 := hm; rw [plN_f (by decide)] at hm; exact hm)), fun m hm => (show plN p l S 14 m ≤ 4 by rw [plN_f (by decide)]; exact h.ml m (by have hm : m < plN p l S 12 0 := hm; rw [plN_f (by decide)] at hm; exact hm)), fun m i hm hi => (show plN p l S 15 (m * 4 + i) < plN p l S 5 0 by have hi : i < plN p l S 14 m := hi; rw [plN_f (by decide)] at hi; rw [plN_f (by decide), plN_f (by decide)]; exact h.mr m i (by have hm : m < plN p l S 12 0 := hm; rw [plN_f (by decide)] at hm; exact hm) hi), (show plN p l S 16 0 ≤ 6 by rw [plN_f (by decide)]; exact h.nn), fun i hi => (show plN p l S 17 i < 2 by rw [plN_f (by decide)]; exact h.ns i (by have hi : i < plN p l S 16 0 := hi; rw [plN_f (by decide)] at hi; exact hi)), fun i hi => (show plN p l S 18 i < 24 by rw [plN_f (by decide)]; exact h.nf i (by have hi : i < plN p l S 16 0 := hi; rw [plN_f (by decide)] at hi; exact hi)), fun i hi => (show plN p l S 19 i < 24 by rw [plN_f (by decide)]; exact h.nt i (by have hi : i < plN p l S 16 0 := hi; rw [plN_f (by decide)] at hi; exact hi))⟩
theorem PlOK.u_an {p : Pl} (h : PlOK p) {a b : Nat} (ha : a < pK p) (hb : b < pK p) : PlOK (plA p a b) := ⟨h.kinds, h.cols, h.col, h.tk, fun r hr => by
    show u2 (u2 p 8 a b) 8 b a 8 r < pK p
    by_cases e : r = b
    · subst e; rw [u2_s]; exact ha
    · rw [u2_i e]
      by_cases e2 : r = a
      · subst e2; rw [u2_s]; exact hb
      · rw [u2_i e2]; exact h.par r hr, h.len, h.sl, h.rate, h.hand, fun r s z => h.nx r s (by unfold plA at z; rw [pNx_u2 (by decide), pNx_u2 (by decide)] at z; exact z), fun r z => h.sm r (by unfold plA at z; rw [pSm_u2 (by decide), pSm_u2 (by decide)] at z; exact z), h.ms, h.mk, h.ml, h.mr, h.nn, h.ns, h.nf, h.nt⟩
theorem plM_ms (p : Pl) (k l : Nat) (R : Nat → Nat) : pMs (plM p k l R) = pMs p + 1 := by
  unfold pMs plM
  rw [if_neg (by decide)]
  exact u2_s _ _ _
theorem plM_mk (p : Pl) (k l : Nat) (R : Nat → Nat) (m : Nat) : pMK (plM p k l R) m = if m = pMs p then k else pMK p m := by
  unfold pMK plM
  rw [if_neg (by decide), u2_f (by decide), u2_f (by decide)]
  by_cases e : m = pMs p
  · subst e; rw [u2_s, if_pos rfl]
  · rw [u2_i e, if_neg e]
theorem plM_ml (p : Pl) (k l : Nat) (R : Nat → Nat) (m : Nat) : pML (plM p k l R) m = if m = pMs p then l else pML p m := by
  unfold pML plM
  rw [if_neg (by decide), u2_f (by decide)]
  by_cases e : m = pMs p
  · subst e; rw [u2_s, if_pos rfl]
  · rw [u2_i e, if_neg e, u2_f (by decide)]
theorem plM_mr (p : Pl) (k l : Nat) (R : Nat → Nat) {m i : Nat} (hi : i < 4) : pMR (plM p k l R) (m * 4 + i) = if m = pMs p then R i else pMR p (m * 4 + i) := by
  unfold pMR plM
  rw [if_pos rfl]
  by_cases e : m = pMs p
  · subst e
    rw [if_pos ⟨by omega, by omega⟩, if_pos rfl]
    congr 1
    omega
  · rw [if_neg (by omega), if_neg e]
theorem PlOK.u_mo {p : Pl} (h : PlOK p) {k l : Nat} {R : Nat → Nat} (hm : pMs p < 4) (hk : k < 4) (hl : l ≤ 4) (hR : ∀ i, i < l → R i < pK p) : PlOK (plM p k l R) := ⟨(show plM p k l R 5 0 ≤ 8 by rw [plM_f (by decide)]; exact h.kinds), (show plM p k l R 4 0 ≤ 2 by rw [plM_f (by decide)]; exact h.cols), fun r hr => (show plM p k l R 6 r < plM p k l R 4 0 by rw [plM_f (by decide), plM_f (by decide)]; exact h.col r (by have hr : r < plM p k l R 5 0 := hr; rw [plM_f (by decide)] at hr; exact hr)), fun r hr => (show plM p k l R 7 r ≤ 3 by rw [plM_f (by decide)]; exact h.tk r (by have hr : r < plM p k l R 5 0 := hr; rw [plM_f (by decide)] at hr; exact hr)), fun r hr => (show plM p k l R 8 r < plM p k l R 5 0 by rw [plM_f (by decide), plM_f (by decide)]; exact h.par r (by have hr : r < plM p k l R 5 0 := hr; rw [plM_f (by decide)] at hr; exact hr)), (show plM p k l R 0 0 ≤ 60 by rw [plM_f (by decide)]; exact h.len), (show plM p k l R 1 0 ≤ 9 by rw [plM_f (by decide)]; exact h.sl), (show plM p k l R 2 0 ≤ 5 by rw [plM_f (by decide)]; exact h.rate), fun s hs => (show plM p k l R 3 s ≤ 9 by rw [plM_f (by decide)]; exact h.hand s hs), fun r s z => by rw [plM_nx] at z; show r < plM p k l R 5 0 ∧ s < plM p k l R 5 0; rw [plM_f (by decide)]; exact h.nx r s z, fun r z => by have z : decide (plM p k l R 9 r = 1) = true := z; rw [plM_f (by decide)] at z; show r < plM p k l R 5 0; rw [plM_f (by decide)]; exact h.sm r z, (by rw [plM_ms]; omega), fun m h1 => by rw [plM_ms] at h1; rw [plM_mk]; by_cases e : m = pMs p; (rw [if_pos e]; exact hk); (rw [if_neg e]; exact h.mk m (by omega)), fun m h1 => by rw [plM_ms] at h1; rw [plM_ml]; by_cases e : m = pMs p; (rw [if_pos e]; exact hl); (rw [if_neg e]; exact h.ml m (by omega)), fun m i h1 h2 => by
    rw [plM_ms] at h1
    rw [plM_ml] at h2
    show pMR (plM p k l R) (m * 4 + i) < plM p k l R 5 0
    rw [plM_f (by decide)]
    by_cases e : m = pMs p
    · rw [if_pos e] at h2
      rw [plM_mr p k l R (by omega), if_pos e]; exact hR i h2
    · rw [if_neg e] at h2
      have := h.ml m (by omega)
      rw [plM_mr p k l R (by omega), if_neg e]; exact h.mr m i (by omega) h2, (show plM p k l R 16 0 ≤ 6 by rw [plM_f (by decide)]; exact h.nn), fun i hi => (show plM p k l R 17 i < 2 by rw [plM_f (by decide)]; exact h.ns i (by have hi : i < plM p k l R 16 0 := hi; rw [plM_f (by decide)] at hi; exact hi)), fun i hi => (show plM p k l R 18 i < 24 by rw [plM_f (by decide)]; exact h.nf i (by have hi : i < plM p k l R 16 0 := hi; rw [plM_f (by decide)] at hi; exact hi)), fun i hi => (show plM p k l R 19 i < 24 by rw [plM_f (by decide)]; exact h.nt i (by have hi : i < plM p k l R 16 0 := hi; rw [plM_f (by decide)] at hi; exact hi))⟩
theorem plO_n (p : Pl) (s a b : Nat) : pN (plO p s a b) = pN p + 1 := by unfold pN plO; rw [u2_s]; rfl
theorem plO_ns (p : Pl) (s a b i : Nat) : pNS (plO p s a b) i = if i = pN p then s else pNS p i := by
  unfold pNS plO
  rw [u2_f (by decide), u2_f (by decide), u2_f (by decide)]
  by_cases e : i = pN p
  · subst e; rw [u2_s, if_pos rfl]
  · rw [u2_i e, if_neg e]
theorem plO_nf (p : Pl) (s a b i : Nat) : pNF (plO p s a b) i = if i = pN p then a else pNF p i := by
  unfold pNF plO
  rw [u2_f (by decide), u2_f (by decide)]
  by_cases e : i = pN p
  · subst e; rw [u2_s, if_pos rfl]
  · rw [u2_i e, if_neg e, u2_f (by decide)]
theorem plO_nt (p : Pl) (s a b i : Nat) : pNT (plO p s a b) i = if i = pN p then b else pNT p i := by
  unfold pNT plO
  rw [u2_f (by decide)]
  by_cases e : i = pN p
  · subst e; rw [u2_s, if_pos rfl]
  · rw [u2_i e, if_neg e, u2_f (by decide), u2_f (by decide)]
theorem plO_nx (p : Pl) (s a b r x : Nat) : pNx (plO p s a b) r x = pNx p r x := by
  unfold plO
  rw [pNx_u2 (by decide), pNx_u2 (by decide), pNx_u2 (by decide), pNx_u2 (by decide)]
theorem PlOK.u_no {p : Pl} (h : PlOK p) {s a b : Nat} (hn : pN p < 6) (hs : s < 2) (ha : a < 24) (hb : b < 24) : PlOK (plO p s a b) := ⟨h.kinds, h.cols, h.col, h.tk, h.par, h.len, h.sl, h.rate, h.hand, fun r x z => h.nx r x (by rw [plO_nx] at z; exact z), h.sm, h.ms, h.mk, h.ml, h.mr, (by rw [plO_n]; omega), fun i hi => by rw [plO_n] at hi; rw [plO_ns]; by_cases e : i = pN p; (rw [if_pos e]; exact hs); (rw [if_neg e]; exact h.ns i (by omega)), fun i hi => by rw [plO_n] at hi; rw [plO_nf]; by_cases e : i = pN p; (rw [if_pos e]; exact ha); (rw [if_neg e]; exact h.nf i (by omega)), fun i hi => by rw [plO_n] at hi; rw [plO_nt]; by_cases e : i = pN p; (rw [if_pos e]; exact hb); (rw [if_neg e]; exact h.nt i (by omega))⟩
