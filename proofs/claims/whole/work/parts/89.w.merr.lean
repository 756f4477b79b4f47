/-! WHAT FAULTS ARE; WHAT A TEXT LEAVES ALONE -/
def E1 {α : Type} (r : Pr α) : Prop := ∀ e, r = .inl e → 1 ≤ e.1 ∧ e.1 ≤ 7
theorem E1_b {α β : Type} {a : Pr α} {f : α → Pr β} (h : E1 a) (g : ∀ x, E1 (f x)) : E1 (pB a f) := fun e he => by
  cases a with
  | inl y => cases he; exact h _ rfl
  | inr x => exact g x e he
theorem E1_l {α : Type} {k q : Nat} (h : 1 ≤ k ∧ k ≤ 7) : E1 (.inl (k, q) : Pr α) := fun e he => by cases he; exact h
theorem E1_r {α : Type} {x : α} : E1 (.inr x : Pr α) := fun e he => by cases he
theorem E1_i {α : Type} {c : Prop} [Decidable c] {a b : Pr α} (h : E1 a) (g : E1 b) : E1 (if c then a else b) := by
  split
  · exact h
  · exact g
section
variable {n : Nat} {tp : Nat → Int32}
theorem E1_W (i q : Nat) : E1 (pW tp n i q) := E1_i E1_r (E1_l (by decide))
theorem E1_Wh (a b q : Nat) : E1 (pWh tp n a b q) := E1_i (E1_i E1_r (E1_l (by decide))) (E1_l (by decide))
theorem E1_F (nm : Nm) (q : Nat) : E1 (pF tp n nm q) := E1_i (E1_i (E1_l (by decide)) E1_r) (E1_l (by decide))
theorem E1_Kn (nm : Nm) (s q : Nat) : E1 (pKn tp n nm s q) := by
  unfold pKn
  refine E1_i ?_ (E1_l (by decide))
  split
  · exact E1_r
  · exact E1_l (by decide)
theorem E1_Pt (i a b q : Nat) : E1 (pPt tp n i a b q) := E1_b (E1_W i q) fun q => E1_Wh a b q
theorem E1_NL (nm : Nm) : ∀ (k : Nat) (S : Nat → Bool) (q : Nat), E1 (pNextL tp n nm k S q)
  | 0, S, q => E1_l (by decide)
  | k + 1, S, q => by
    rw [pNextL_s]
    exact E1_b (E1_Kn _ _ _) fun x => E1_i (E1_l (by decide)) (E1_i (E1_NL nm k _ _) E1_r)
theorem E1_SL (p : Pl) (nm : Nm) (s : Nat) : ∀ (k i : Nat) (lo : Lo) (q : Nat), E1 (pSideL tp n p nm s k i lo q)
  | 0, i, lo, q => E1_l (by decide)
  | k + 1, i, lo, q => by
    rw [pSideL_s]
    exact E1_b (E1_Kn _ _ _) fun x => E1_i (E1_l (by decide)) (E1_i (E1_i (E1_SL p nm s k _ _ _) E1_r) (E1_l (by decide)))
theorem E1_ML (nm : Nm) : ∀ (k i : Nat) (R : Nat → Nat) (q : Nat), E1 (pMotL tp n nm k i R q)
  | 0, i, R, q => E1_l (by decide)
  | k + 1, i, R, q => by
    rw [pMotL_s]
    exact E1_b (E1_Kn _ _ _) fun x => E1_i (E1_l (by decide)) (E1_i (E1_ML nm k _ _ _) E1_r)
theorem E1_Line (rd : Rd) (q : Nat) : E1 (pLine tp n rd q) := by
  unfold pLine
  refine E1_i ?_ (E1_i ?_ (E1_i ?_ (E1_i ?_ (E1_i ?_ (E1_i ?_ (E1_i ?_ (E1_i ?_ (E1_i ?_ (E1_l (by decide))))))))))
  · exact E1_i (E1_l (by decide)) (E1_b (E1_Pt _ _ _ _) fun _ => E1_b (E1_Pt _ _ _ _) fun _ => E1_b (E1_Pt _ _ _ _) fun _ => E1_b (E1_Pt _ _ _ _) fun _ => E1_b (E1_Pt _ _ _ _) fun _ => E1_r)
  · exact E1_i (E1_l (by decide)) (E1_b (E1_F _ _) fun _ => E1_b (E1_Pt _ _ _ _) fun _ => E1_b (E1_Pt _ _ _ _) fun _ => E1_r)
  · exact E1_i (E1_l (by decide)) (E1_b (E1_F _ _) fun _ => E1_b (E1_W _ _) fun _ => E1_b (E1_Kn _ _ _) fun _ => E1_b (E1_Wh _ _ _) fun _ => E1_r)
  · exact E1_b (E1_Kn _ _ _) fun _ => E1_i (E1_l (by decide)) (E1_b (E1_W _ _) fun _ => E1_b (E1_NL _ _ _ _) fun _ => E1_r)
  · exact E1_b (E1_Kn _ _ _) fun _ => E1_i (E1_l (by decide)) (E1_b (E1_Kn _ _ _) fun _ => E1_i (E1_l (by decide)) E1_r)
  · exact E1_i (E1_l (by decide)) (E1_b (E1_SL _ _ _ _ _ _ _) fun _ => E1_r)
  · exact E1_i (E1_l (by decide)) (E1_b (E1_SL _ _ _ _ _ _ _) fun _ => E1_r)
  · unfold pMotif
    refine E1_i (E1_l (by decide)) (E1_b (E1_F _ _) fun q1 => ?_)
    cases mkO tp n q1 with
    | none => exact E1_l (by decide)
    | some k => exact E1_b (E1_ML _ _ _ _ _) fun _ => E1_r
  · unfold pNote
    refine E1_i (E1_l (by decide)) ?_
    cases ntS tp n (tkE tp n q) with
    | none => exact E1_l (by decide)
    | some k => exact E1_b (E1_Wh _ _ _) fun _ => E1_b (E1_W _ _) fun _ => E1_b (E1_W _ _) fun _ => E1_b (E1_Wh _ _ _) fun _ => E1_r
theorem E1_All : ∀ (k : Nat) (rd : Rd) (q : Nat), E1 (pAll tp n k rd q)
  | 0, rd, q => E1_l (by decide)
  | k + 1, rd, q => by
    rw [pAll_s]
    exact E1_b (E1_Line _ _) fun x => E1_i (E1_i E1_r (E1_l (by decide))) (E1_i (E1_All k _ _) (E1_l (by decide)))
/-- what was ripped stays 0 -/
theorem pSideL_w {p : Pl} {nm : Nm} {s : Nat} {x : Nat × Lo} : ∀ (k i : Nat) (lo : Lo) (q : Nat), pSideL tp n p nm s k i lo q = .inr x → x.2.2.2.2 = lo.2.2.2
  | 0, i, lo, q, h => by cases h
  | k + 1, i, lo, q, h => by
    rw [pSideL_s] at h
    obtain ⟨y, e1, h⟩ := pB_i h
    split at h
    · cases h
    · split at h
      · split at h
        · exact (pSideL_w k _ (lAdd p lo s y) _ h).trans rfl
        · cases h; rfl
      · cases h
theorem pLine_w {rd : Rd} {q : Nat} {x : Nat × Rd} (h : pLine tp n rd q = .inr x) : x.2.2.1.2.2.2 = rd.2.1.2.2.2 := by
  unfold pLine at h
  split at h
  · unfold pCloth at h
    split at h
    · cases h
    · obtain ⟨x1, e1, h⟩ := pB_i h
      obtain ⟨x2, e2, h⟩ := pB_i h
      obtain ⟨x3, e3, h⟩ := pB_i h
      obtain ⟨x4, e4, h⟩ := pB_i h
      obtain ⟨x5, e5, h⟩ := pB_i h
      cases h; rfl
  split at h
  · unfold pColour at h
    split at h
    · cases h
    · obtain ⟨q1, e1, h⟩ := pB_i h
      obtain ⟨x2, e2, h⟩ := pB_i h
      obtain ⟨x3, e3, h⟩ := pB_i h
      cases h; rfl
  split at h
  · unfold pRow at h
    split at h
    · cases h
    · obtain ⟨q1, e1, h⟩ := pB_i h
      obtain ⟨q2, e2, h⟩ := pB_i h
      obtain ⟨c, e3, h⟩ := pB_i h
      obtain ⟨x4, e4, h⟩ := pB_i h
      cases h; rfl
  split at h
  · unfold pNext at h
    obtain ⟨l, e1, h⟩ := pB_i h
    split at h
    · cases h
    · obtain ⟨q1, e2, h⟩ := pB_i h
      obtain ⟨x3, e3, h⟩ := pB_i h
      cases h; rfl
  split at h
  · unfold pAnsw at h
    obtain ⟨a, e1, h⟩ := pB_i h
    split at h
    · cases h
    · obtain ⟨b, e2, h⟩ := pB_i h
      split at h
      · cases h
      · cases h; rfl
  split at h
  · unfold pSide at h
    split at h
    · cases h
    · obtain ⟨x1, e1, h⟩ := pB_i h
      have := pSideL_w _ _ _ _ e1
      cases h; exact this
  split at h
  · unfold pSide at h
    split at h
    · cases h
    · obtain ⟨x1, e1, h⟩ := pB_i h
      have := pSideL_w _ _ _ _ e1
      cases h; exact this
  split at h
  · unfold pMotif at h
    split at h
    · cases h
    · obtain ⟨q1, e1, h⟩ := pB_i h
      cases y2 : mkO tp n q1 with
      | none => simp only [y2] at h; cases h
      | some k =>
        simp only [y2] at h
        obtain ⟨x3, e3, h⟩ := pB_i h
        cases h; rfl
  split at h
  · unfold pNote at h
    split at h
    · cases h
    · cases y2 : ntS tp n (tkE tp n q) with
      | none => simp only [y2] at h; cases h
      | some s =>
        simp only [y2] at h
        obtain ⟨x1, e1, h⟩ := pB_i h
        obtain ⟨q3, e2, h⟩ := pB_i h
        obtain ⟨q4, e3, h⟩ := pB_i h
        obtain ⟨x2, e4, h⟩ := pB_i h
        cases h; rfl
  · cases h
theorem pAll_w {rd' : Rd} : ∀ (k : Nat) (rd : Rd) (q : Nat), pAll tp n k rd q = .inr rd' → rd'.2.1.2.2.2 = rd.2.1.2.2.2
  | 0, rd, q, h => by cases h
  | k + 1, rd, q, h => by
    rw [pAll_s] at h
    obtain ⟨x, e1, h⟩ := pB_i h
    have w := pLine_w e1
    split at h
    · split at h
      · cases h; exact w
      · cases h
    · split at h
      · exact (pAll_w k _ _ h).trans w
      · cases h
end
