/-! CHAINS of rows -/
def pthR (R : Nat → Nat → Bool) : (Nat → Bool) → List Nat → Prop
  | _, [] => True
  | F, r :: l => F r = true ∧ pthR R (R r) l
def useL (p : Pl) (c : Nat) : List Nat → Nat
  | [] => 0
  | r :: l => tkc p r c + useL p c l
def FWL (p : Pl) (R : Nat → Nat → Bool) (F : Nat → Bool) (s0 s1 n a b e : Nat) : Prop :=
  ∃ l : List Nat, l.length = n ∧ pthR R F l ∧ (∀ x, x ∈ l → x < pK p) ∧ useL p 0 l = a ∧ useL p 1 l = b ∧ a ≤ s0 ∧ b ≤ s1 ∧ l.getLast? = some e
def nxt (R : Nat → Nat → Bool) (F : Nat → Bool) (o : Option Nat) (r : Nat) : Bool := match o with | none => F r | some q => R q r
theorem pthR_snoc (R : Nat → Nat → Bool) : ∀ (F : Nat → Bool) (l : List Nat) (r : Nat), pthR R F (l ++ [r]) ↔ pthR R F l ∧ nxt R F l.getLast? r = true
  | F, [], r => by simp [pthR, nxt]
  | F, [q], r => by simp [pthR, nxt]
  | F, q :: q2 :: l, r => by
    have ih := pthR_snoc R (R q) (q2 :: l) r
    have e : (q :: q2 :: l).getLast? = (q2 :: l).getLast? := by simp [List.getLast?_cons_cons]
    have e2 : nxt R (R q) (q2 :: l).getLast? r = nxt R F (q2 :: l).getLast? r := by
      cases h : (q2 :: l).getLast? with
      | none => simp at h
      | some z => rfl
    rw [e, ← e2]
    show (F q = true ∧ pthR R (R q) (q2 :: l ++ [r])) ↔ (F q = true ∧ pthR R (R q) (q2 :: l)) ∧ _
    rw [ih, and_assoc]
theorem useL_app (p : Pl) (c : Nat) : ∀ (l l' : List Nat), useL p c (l ++ l') = useL p c l + useL p c l'
  | [], l' => by simp [useL]
  | r :: l, l' => by
    show tkc p r c + useL p c (l ++ l') = tkc p r c + useL p c l + useL p c l'
    rw [useL_app p c l l']; omega
theorem useL_snoc (p : Pl) (c : Nat) (l : List Nat) (r : Nat) : useL p c (l ++ [r]) = useL p c l + tkc p r c := by
  rw [useL_app]; simp [useL]
theorem snoc_of {l : List Nat} {e : Nat} (h : l.getLast? = some e) : ∃ l', l = l' ++ [e] := by
  obtain ⟨l', rfl⟩ := List.getLast?_eq_some_iff.mp h
  exact ⟨l', rfl⟩
section
variable {p : Pl} {R : Nat → Nat → Bool} {F : Nat → Bool} {s0 s1 : Nat}
theorem FWL_1 {a b e : Nat} : FWL p R F s0 s1 1 a b e ↔ e < pK p ∧ F e = true ∧ a = tkc p e 0 ∧ b = tkc p e 1 ∧ a ≤ s0 ∧ b ≤ s1 := by
  constructor
  · rintro ⟨l, h1, h2, h3, h4, h5, h6, h7, h8⟩
    obtain ⟨l', rfl⟩ := snoc_of h8
    have : l' = [] := by
      simp at h1; exact h1
    subst this
    refine ⟨h3 e (by simp), h2.1, ?_, ?_, h6, h7⟩
    · rw [← h4]; simp [useL]
    · rw [← h5]; simp [useL]
  · rintro ⟨h1, h2, rfl, rfl, h3, h4⟩
    exact ⟨[e], rfl, ⟨h2, trivial⟩, fun x hx => by simp at hx; subst hx; exact h1, by simp [useL], by simp [useL], h3, h4, rfl⟩
theorem FWL_s {n a b e : Nat} (hn : 1 ≤ n) : FWL p R F s0 s1 (n + 1) a b e ↔ ∃ a0 b0 r, FWL p R F s0 s1 n a0 b0 r ∧ R r e = true ∧ e < pK p ∧ a = a0 + tkc p e 0 ∧ b = b0 + tkc p e 1 ∧ a ≤ s0 ∧ b ≤ s1 := by
  constructor
  · rintro ⟨l, h1, h2, h3, h4, h5, h6, h7, h8⟩
    obtain ⟨l', rfl⟩ := snoc_of h8
    have hl : l'.length = n := by simpa using h1
    have hne : l' ≠ [] := by
      intro z; subst z; simp at hl; omega
    obtain ⟨r, hr⟩ : ∃ r, l'.getLast? = some r := ⟨_, List.getLast?_eq_some_getLast hne⟩
    rw [pthR_snoc, hr] at h2
    rw [useL_snoc] at h4 h5
    exact ⟨useL p 0 l', useL p 1 l', r, ⟨l', hl, h2.1, fun x hx => h3 x (by simp [hx]), rfl, rfl, by omega, by omega, hr⟩, h2.2, h3 e (by simp), h4.symm, h5.symm, h6, h7⟩
  · rintro ⟨a0, b0, r, ⟨l', h1, h2, h3, h4, h5, h6, h7, h8⟩, g1, g2, rfl, rfl, g3, g4⟩
    refine ⟨l' ++ [e], by simp [h1], ?_, fun x hx => ?_, by rw [useL_snoc, h4], by rw [useL_snoc, h5], g3, g4, by simp⟩
    · rw [pthR_snoc, h8]; exact ⟨h2, g1⟩
    · rcases List.mem_append.mp hx with h | h
      · exact h3 x h
      · simp at h; subst h; exact g2
theorem FWL_lt {n a b e : Nat} (h : FWL p R F s0 s1 n a b e) : e < pK p ∧ a ≤ s0 ∧ b ≤ s1 ∧ 1 ≤ n := by
  obtain ⟨l, h1, h2, h3, h4, h5, h6, h7, h8⟩ := h
  obtain ⟨l', rfl⟩ := snoc_of h8
  exact ⟨h3 e (by simp), h6, h7, by rw [← h1]; simp⟩
theorem FWL_no {n : Nat} (hn : 1 ≤ n) (h : ∀ a b e, ¬ FWL p R F s0 s1 n a b e) : ∀ m, n ≤ m → ∀ a b e, ¬ FWL p R F s0 s1 m a b e := by
  intro m
  induction m with
  | zero => intro h0; omega
  | succ m ih =>
    intro hm a b e hf
    by_cases e1 : m + 1 = n
    · rw [e1] at hf; exact h a b e hf
    · obtain ⟨a0, b0, r, h1, -⟩ := (FWL_s (by omega)).mp hf
      exact ih (by omega) a0 b0 r h1
end
/-- the spread's picture: n rows are through -/
def spC (p : Pl) (R : Nat → Nat → Bool) (F : Nat → Bool) (s0 s1 k : Nat) : Nat → Nat → Nat → Nat → Prop := fun m a b i => m ≤ k ∧ FWL p R F s0 s1 m a b i
def spL (p : Pl) (R : Nat → Nat → Bool) (F : Nat → Bool) (s0 s1 k : Nat) : Nat → Nat → Prop := fun m i => m ≤ k ∧ ∃ a b, FWL p R F s0 s1 m a b i
def spG (p : Pl) (R : Nat → Nat → Bool) (F : Nat → Bool) (s0 s1 k lg : Nat) : Prop := lg ≤ k ∧ (∀ m, lg < m → m ≤ k → ∀ a b i, ¬ FWL p R F s0 s1 m a b i) ∧ (0 < lg → ∃ a b i, FWL p R F s0 s1 lg a b i)
def spS (B : Nat) : Nat → Prop := fun a => B + 46 ≤ a ∧ a ≤ B + 50 ∧ a ≠ B + 47
def spI (M0 : qM) (B : Nat) (p : Pl) (R : Nat → Nat → Bool) (F : Nat → Bool) (s0 s1 k : Nat) (m : qM) : Prop := Fr (spS B) M0 m ∧ ∃ lg, WV m B s0 s1 (spC p R F s0 s1 k) (spL p R F s0 s1 k) lg ∧ spG p R F s0 s1 k lg
/-- chains of n rows, so far lengthened -/
def spN (p : Pl) (R : Nat → Nat → Bool) (F : Nat → Bool) (s0 s1 n a' b' a b i : Nat) : Prop := ∃ a0 b0 r, (a0 < a' ∨ (a0 = a' ∧ b0 < b')) ∧ FWL p R F s0 s1 n a0 b0 r ∧ R r i = true ∧ i < pK p ∧ a = a0 + tkc p i 0 ∧ b = b0 + tkc p i 1 ∧ a ≤ s0 ∧ b ≤ s1
def spJ (M0 : qM) (B : Nat) (p : Pl) (R : Nat → Nat → Bool) (F : Nat → Bool) (s0 s1 n a' b' : Nat) (m : qM) : Prop := Fr (spS B) M0 m ∧ ∃ lg lg0, WV m B s0 s1 (fun m a b i => spC p R F s0 s1 n m a b i ∨ (m = n + 1 ∧ spN p R F s0 s1 n a' b' a b i)) (fun m i => spL p R F s0 s1 n m i ∨ (m = n + 1 ∧ ∃ a b, spN p R F s0 s1 n a' b' a b i)) lg ∧ spG p R F s0 s1 n lg0 ∧ ((lg = n + 1 ∧ ∃ a b i, spN p R F s0 s1 n a' b' a b i) ∨ (lg = lg0 ∧ ∀ a b i, ¬ spN p R F s0 s1 n a' b' a b i))
section
variable {M0 m : qM} {B : Nat} {p : Pl} {R : Nat → Nat → Bool} {F : Nat → Bool} {s0 s1 n a' b' : Nat}
theorem WV.iff {ce ce' : Nat → Nat → Nat → Nat → Prop} {la la' : Nat → Nat → Prop} {lg : Nat} (h : WV m B s0 s1 ce la lg) (h1 : ∀ m a b i, m ≤ 24 → (ce m a b i ↔ ce' m a b i)) (h2 : ∀ m i, m ≤ 24 → (la m i ↔ la' m i)) : WV m B s0 s1 ce' la' lg :=
  ⟨h.v0, h.v1, h.b0, h.b1, fun n a b z1 z2 z3 i => (h.ce n a b z1 z2 z3 i).trans (h1 n a b i z1), fun n z1 i => (h.la n z1 i).trans (h2 n i z1), h.lg⟩
theorem spN_0 (a b i : Nat) : ¬ spN p R F s0 s1 n 0 0 a b i := by
  rintro ⟨a0, b0, r, h, -⟩
  omega
theorem spJ_enter (h : spI M0 B p R F s0 s1 n m) : spJ M0 B p R F s0 s1 n 0 0 m := by
  obtain ⟨f, lg, V, g⟩ := h
  refine ⟨f, lg, lg, V.iff (fun m a b i _ => ⟨Or.inl, fun z => z.elim id (fun z => absurd z.2 (spN_0 a b i))⟩) (fun m i _ => ⟨Or.inl, fun z => z.elim id (fun ⟨_, a, b, z⟩ => absurd z (spN_0 a b i))⟩), g, Or.inr ⟨rfl, spN_0⟩⟩
theorem spN_row {a b i : Nat} : spN p R F s0 s1 n a' (s1 + 1) a b i ↔ spN p R F s0 s1 n (a' + 1) 0 a b i := by
  constructor
  · rintro ⟨a0, b0, r, h1, h2⟩
    exact ⟨a0, b0, r, by omega, h2⟩
  · rintro ⟨a0, b0, r, h1, h2, h3⟩
    have := (FWL_lt h2).2.2.1
    exact ⟨a0, b0, r, by omega, h2, h3⟩
theorem spJ.iff {a'' b'' : Nat} (h : spJ M0 B p R F s0 s1 n a' b' m) (e : ∀ a b i, spN p R F s0 s1 n a' b' a b i ↔ spN p R F s0 s1 n a'' b'' a b i) : spJ M0 B p R F s0 s1 n a'' b'' m := by
  obtain ⟨f, lg, lg0, V, g, hl⟩ := h
  refine ⟨f, lg, lg0, V.iff (fun m a b i _ => or_congr Iff.rfl (and_congr Iff.rfl (e a b i))) (fun m i _ => or_congr Iff.rfl (and_congr Iff.rfl (exists_congr fun a => exists_congr fun b => e a b i))), g, ?_⟩
  rcases hl with ⟨z1, a, b, i, z2⟩ | ⟨z1, z2⟩
  · exact Or.inl ⟨z1, a, b, i, (e a b i).mp z2⟩
  · exact Or.inr ⟨z1, fun a b i z => z2 a b i ((e a b i).mpr z)⟩
theorem spJ_leave (hn : 1 ≤ n) (h : spJ M0 B p R F s0 s1 n (s0 + 1) 0 m) : spI M0 B p R F s0 s1 (n + 1) m := by
  have e : ∀ a b i, spN p R F s0 s1 n (s0 + 1) 0 a b i ↔ FWL p R F s0 s1 (n + 1) a b i := by
    intro a b i
    rw [FWL_s hn]
    constructor
    · rintro ⟨a0, b0, r, -, h2⟩; exact ⟨a0, b0, r, h2⟩
    · rintro ⟨a0, b0, r, h2, h3⟩
      have := (FWL_lt h2).2.1
      exact ⟨a0, b0, r, Or.inl (by omega), h2, h3⟩
  obtain ⟨f, lg, lg0, V, g, hl⟩ := h
  refine ⟨f, lg, V.iff (fun m a b i _ => ?_) (fun m i _ => ?_), ?_⟩
  · constructor
    · rintro (⟨z1, z2⟩ | ⟨z1, z2⟩)
      · exact ⟨by omega, z2⟩
      · subst z1; exact ⟨Nat.le_refl _, (e a b i).mp z2⟩
    · rintro ⟨z1, z2⟩
      by_cases h' : m = n + 1
      · subst h'; exact Or.inr ⟨rfl, (e a b i).mpr z2⟩
      · exact Or.inl ⟨by omega, z2⟩
  · constructor
    · rintro (⟨z1, z2⟩ | ⟨z1, a, b, z2⟩)
      · exact ⟨by omega, z2⟩
      · subst z1; exact ⟨Nat.le_refl _, a, b, (e a b i).mp z2⟩
    · rintro ⟨z1, a, b, z2⟩
      by_cases h' : m = n + 1
      · subst h'; exact Or.inr ⟨rfl, a, b, (e a b i).mpr z2⟩
      · exact Or.inl ⟨by omega, a, b, z2⟩
  · rcases hl with ⟨z1, a, b, i, z2⟩ | ⟨z1, z2⟩
    · subst z1
      exact ⟨Nat.le_refl _, fun m h1 h2 => by omega, fun _ => ⟨a, b, i, (e a b i).mp z2⟩⟩
    · subst z1
      refine ⟨by have := g.1; omega, fun m h1 h2 a b i hf => ?_, g.2.2⟩
      by_cases h' : m = n + 1
      · subst h'; exact z2 a b i ((e a b i).mpr hf)
      · exact g.2.1 m h1 (by omega) a b i hf
end
