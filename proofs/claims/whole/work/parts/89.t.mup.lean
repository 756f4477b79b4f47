/-! WHAT IS READ GOES FORWARD AND STAYS WITHIN BOUNDS -/
section
variable {n q : Nat} {tp : Nat → Int32} {p : Pl} {lo : Lo} {nm : Nm} {fl : Fl}
theorem pB_i {α β : Type} {a : Pr α} {f : α → Pr β} {y : β} (h : pB a f = .inr y) : ∃ x, a = .inr x ∧ f x = .inr y := by
  cases a with
  | inl e => cases h
  | inr x => exact ⟨x, rfl, h⟩
theorem pW_u {i x : Nat} (hq : q ≤ n) (h : pW tp n i q = .inr x) : q ≤ x ∧ x ≤ n := by
  unfold pW at h
  split at h
  · cases h; exact tkE_le hq
  · cases h
theorem pWh_u {a b : Nat} {x : Nat × Nat} (hq : q ≤ n) (h : pWh tp n a b q = .inr x) : (q ≤ x.2 ∧ x.2 ≤ n) ∧ a ≤ x.1 ∧ x.1 ≤ b := by
  unfold pWh at h
  split at h
  · split at h
    · rename_i w; cases h; exact ⟨tkE_le hq, w⟩
    · cases h
  · cases h
theorem pPt_u {i a b : Nat} {x : Nat × Nat} (hq : q ≤ n) (h : pPt tp n i a b q = .inr x) : (q ≤ x.2 ∧ x.2 ≤ n) ∧ a ≤ x.1 ∧ x.1 ≤ b := by
  unfold pPt at h
  obtain ⟨q1, e1, e2⟩ := pB_i h
  have u1 := pW_u hq e1
  have u2 := pWh_u u1.2 e2
  exact ⟨⟨by omega, u2.1.2⟩, u2.2⟩
theorem pF_u {x : Nat} (hq : q ≤ n) (h : pF tp n nm q = .inr x) : q ≤ x ∧ x ≤ n := by
  unfold pF at h
  split at h
  · split at h
    · cases h
    · cases h; exact tkE_le hq
  · cases h
theorem pNextL_u (K : RdOK p lo nm fl) {x : Nat × (Nat → Bool)} : ∀ (k : Nat) (S : Nat → Bool) (q : Nat), q ≤ n → (∀ j, S j = true → j < pK p) → pNextL tp n nm k S q = .inr x → (q ≤ x.1 ∧ x.1 ≤ n) ∧ ∀ j, x.2 j = true → j < pK p
  | 0, S, q, hq, hS, h => by cases h
  | k + 1, S, q, hq, hS, h => by
    rw [pNextL_s] at h
    obtain ⟨y, e1, h⟩ := pB_i h
    have l1 := tkE_le (tp := tp) hq
    have l2 := tkE_le (tp := tp) l1.2
    have yK := pKn_row K e1
    have hS2 : ∀ j, addS S y j = true → j < pK p := fun j hj => by
      unfold addS at hj
      by_cases ej : j = y
      · omega
      · rw [if_neg ej] at hj; exact hS j hj
    try dsimp only at h
    split at h
    · cases h
    · split at h
      · have := pNextL_u K k _ _ l2.2 hS2 h
        exact ⟨⟨by omega, this.1.2⟩, this.2⟩
      · cases h; exact ⟨l1, hS2⟩
theorem pSideL_u {s : Nat} (K : RdOK p lo nm fl) (hs : s < 2) {x : Nat × Lo} : ∀ (k i : Nat) (lo' : Lo) (q : Nat), q ≤ n → lC lo' s = i → i ≤ 12 → LoOK (pK p) lo' → (∀ t, t ≠ s → lC lo' t = lC lo t) → pSideL tp n p nm s k i lo' q = .inr x → (q ≤ x.1 ∧ x.1 ≤ n) ∧ LoOK (pK p) x.2 ∧ (∀ t, t ≠ s → lC x.2 t = lC lo t) ∧ lC x.2 s ≤ 12
  | 0, i, lo', q, hq, hi, h12, L, hc, h => by cases h
  | k + 1, i, lo', q, hq, hi, h12, L, hc, h => by
    rw [pSideL_s] at h
    obtain ⟨y, e1, h⟩ := pB_i h
    have l1 := tkE_le (tp := tp) hq
    have l2 := tkE_le (tp := tp) l1.2
    have yK := pKn_row K e1
    have hcl := K.O.col y yK
    have hcs := K.O.cols
    try dsimp only at h
    split at h
    · cases h
    · rename_i i12
      have L2 : LoOK (pK p) (lAdd p lo' s y) := L.add yK (by omega) hs (by omega)
      have c2 : ∀ t, t ≠ s → lC (lAdd p lo' s y) t = lC lo t := fun t ht => by rw [lC_addN p lo' y ht]; exact hc t ht
      have a2 := lC_add p lo' s y
      split at h
      · split at h
        · have := pSideL_u K hs k (i + 1) _ _ l2.2 (by omega) (by omega) L2 c2 h
          exact ⟨⟨by omega, this.1.2⟩, this.2⟩
        · cases h; exact ⟨l1, L2, c2, by dsimp only; omega⟩
      · cases h
theorem pMotL_u (K : RdOK p lo nm fl) {x : Nat × Nat × (Nat → Nat)} : ∀ (k i : Nat) (R : Nat → Nat) (q : Nat), q ≤ n → i ≤ 4 → (∀ j, j < i → R j < pK p) → pMotL tp n nm k i R q = .inr x → (q ≤ x.1 ∧ x.1 ≤ n) ∧ x.2.1 ≤ 4 ∧ ∀ j, j < x.2.1 → x.2.2 j < pK p
  | 0, i, R, q, hq, hi, hR, h => by cases h
  | k + 1, i, R, q, hq, hi, hR, h => by
    rw [pMotL_s] at h
    obtain ⟨y, e1, h⟩ := pB_i h
    have l1 := tkE_le (tp := tp) hq
    have l2 := tkE_le (tp := tp) l1.2
    have yK := pKn_row K e1
    have hR2 : ∀ j, j < i + 1 → (if j = i then y else R j) < pK p := fun j hj => by
      by_cases ej : j = i
      · rw [if_pos ej]; exact yK
      · rw [if_neg ej]; exact hR j (by omega)
    try dsimp only at h
    split at h
    · cases h
    · split at h
      · have := pMotL_u K k (i + 1) _ _ l2.2 (by omega) hR2 h
        exact ⟨⟨by omega, this.1.2⟩, this.2⟩
      · cases h; exact ⟨l1, by dsimp only; omega, hR2⟩
theorem pLine_u (K : RdOK p lo nm fl) (hq : q ≤ n) {x : Nat × Rd} (h : pLine tp n (p, lo, nm, fl) q = .inr x) : (q ≤ x.1 ∧ x.1 ≤ n) ∧ RdOK x.2.1 x.2.2.1 x.2.2.2.1 x.2.2.2.2 := by
  have l1 := tkE_le (tp := tp) hq
  have l2 := tkE_le (tp := tp) l1.2
  have l3 := tkE_le (tp := tp) l2.2
  unfold pLine at h
  split at h
  · unfold pCloth at h
    split at h
    · cases h
    · obtain ⟨x1, e1, h⟩ := pB_i h
      obtain ⟨x2, e2, h⟩ := pB_i h
      obtain ⟨x3, e3, h⟩ := pB_i h
      obtain ⟨x4, e4, h⟩ := pB_i h
      obtain ⟨x5, e5, h⟩ := pB_i h
      have u1 := pPt_u l1.2 e1
      have u2 := pPt_u u1.1.2 e2
      have u3 := pPt_u u2.1.2 e3
      have u4 := pPt_u u3.1.2 e4
      have u5 := pPt_u u4.1.2 e5
      cases h
      exact ⟨⟨by dsimp only; omega, u5.1.2⟩, K.cloth u1.2.2 u2.2.2 u3.2.2 u4.2.2 u5.2.2⟩
  split at h
  · unfold pColour at h
    split at h
    · cases h
    · rename_i t
      obtain ⟨q1, e1, h⟩ := pB_i h
      obtain ⟨x2, e2, h⟩ := pB_i h
      obtain ⟨x3, e3, h⟩ := pB_i h
      have u1 := pF_u l1.2 e1
      have u2 := pPt_u u1.2 e2
      have u3 := pPt_u u2.1.2 e3
      cases h
      exact ⟨⟨by dsimp only; omega, u3.1.2⟩, K.colour (Nat.lt_of_not_le t) u2.2.2 u3.2.2 _⟩
  split at h
  · unfold pRow at h
    split at h
    · cases h
    · rename_i t
      obtain ⟨q1, e1, h⟩ := pB_i h
      obtain ⟨q2, e2, h⟩ := pB_i h
      obtain ⟨c, e3, h⟩ := pB_i h
      obtain ⟨x4, e4, h⟩ := pB_i h
      have u1 := pF_u l1.2 e1
      have u2 := pW_u u1.2 e2
      have m1 := tkE_le (tp := tp) u2.2
      have u4 := pWh_u m1.2 e4
      have m2 := tkE_le (tp := tp) u4.1.2
      cases h
      refine ⟨?_, K.row (Nat.lt_of_not_le t) (pKn_col K e3) u4.2.2 _⟩
      dsimp only
      split <;> omega
  split at h
  · unfold pNext at h
    obtain ⟨l, e1, h⟩ := pB_i h
    try dsimp only at h
    split at h
    · cases h
    · obtain ⟨q1, e2, h⟩ := pB_i h
      obtain ⟨x3, e3, h⟩ := pB_i h
      have u2 := pW_u l2.2 e2
      have u3 := pNextL_u K _ _ _ u2.2 (fun j hj => by cases hj) e3
      cases h
      exact ⟨⟨by dsimp only; omega, u3.1.2⟩, K.next (pKn_row K e1) u3.2⟩
  split at h
  · unfold pAnsw at h
    obtain ⟨a, e1, h⟩ := pB_i h
    try dsimp only at h
    split at h
    · cases h
    · obtain ⟨b, e2, h⟩ := pB_i h
      try dsimp only at h
      split at h
      · cases h
      · cases h
        exact ⟨⟨by dsimp only; omega, l3.2⟩, K.answ (pKn_row K e1) (pKn_row K e2)⟩
  split at h
  · unfold pSide at h
    split at h
    · cases h
    · rename_i t
      obtain ⟨x1, e1, h⟩ := pB_i h
      have c0 := K.sd 0 (by decide) (by simpa using t)
      have u1 := pSideL_u K (by decide) _ _ _ _ l1.2 c0 (by omega) K.L (fun t ht => rfl) e1
      cases h
      exact ⟨⟨by dsimp only; omega, u1.1.2⟩, K.side u1.2.1 u1.2.2.1 u1.2.2.2⟩
  split at h
  · unfold pSide at h
    split at h
    · cases h
    · rename_i t
      obtain ⟨x1, e1, h⟩ := pB_i h
      have c0 := K.sd 1 (by decide) (by simpa using t)
      have u1 := pSideL_u K (by decide) _ _ _ _ l1.2 c0 (by omega) K.L (fun t ht => rfl) e1
      cases h
      exact ⟨⟨by dsimp only; omega, u1.1.2⟩, K.side u1.2.1 u1.2.2.1 u1.2.2.2⟩
  split at h
  · unfold pMotif at h
    split at h
    · cases h
    · rename_i t
      obtain ⟨q1, e1, h⟩ := pB_i h
      have u1 := pF_u l1.2 e1
      have m1 := tkE_le (tp := tp) u1.2
      try dsimp only at h
      cases y2 : mkO tp n q1 with
      | none => simp only [y2] at h; cases h
      | some k =>
        simp only [y2] at h
        obtain ⟨x3, e3, h⟩ := pB_i h
        have u3 := pMotL_u K _ _ _ _ m1.2 (by decide) (fun j hj => absurd hj (by omega)) e3
        cases h
        exact ⟨⟨by dsimp only; omega, u3.1.2⟩, K.motif (Nat.lt_of_not_le t) (mkO_lt y2) u3.2.1 u3.2.2 _⟩
  split at h
  · unfold pNote at h
    split at h
    · cases h
    · rename_i t
      cases y2 : ntS tp n (tkE tp n q) with
      | none => simp only [y2] at h; cases h
      | some s =>
        simp only [y2] at h
        obtain ⟨x1, e1, h⟩ := pB_i h
        obtain ⟨q3, e2, h⟩ := pB_i h
        obtain ⟨q4, e3, h⟩ := pB_i h
        obtain ⟨x2, e4, h⟩ := pB_i h
        have u1 := pWh_u l2.2 e1
        have u2 := pW_u u1.1.2 e2
        have u3 := pW_u u2.2 e3
        have u4 := pWh_u u3.2 e4
        have s2 : s < 2 := by
          unfold ntS at y2
          split at y2
          · cases y2; decide
          · split at y2
            · cases y2; decide
            · cases y2
        cases h
        exact ⟨⟨by dsimp only; omega, u4.1.2⟩, K.note (Nat.lt_of_not_le t) s2 (by omega) (by omega)⟩
  · cases h
end
