/-! WEEKS: what is left of a best meeting is the best one of what then stands -/
def PB (p : Pl) (lo : Lo) (a b : Nat) (t : List Nat) : Prop := Bst p lo 0 0 a b ∧ t.length = a + b ∧ Grd (VT p lo 0 0 a b) t
theorem PB.vt {p : Pl} {lo : Lo} (O : PlOK p) (L : LoOK (pK p) lo) {a b : Nat} {t : List Nat} (h : PB p lo a b t) : VT p lo 0 0 a b t := Grd.valid (fun t ht => VT.len ht) h.2.2 h.2.1 ((jn_VT O L).mp (mtB_true.mp h.1.2.2.1).2.2.2)
def okx (p : Pl) (lo : Lo) (s x : Nat) : Prop := x < pK p ∧ folO p s (lastO lo s 0) x = true ∧ (∀ c, c < 2 → tkc p x c ≤ lS lo s c)
theorem chL_same {p : Pl} {lo : Lo} {s x : Nat} (hx : okx p lo s x) (l : List Nat) : chL p (lAdd p lo s x) s 0 l ↔ chL p lo s 0 (x :: l) := by
  obtain ⟨h1, h2, h3⟩ := hx
  have t0 := h3 0 (by decide)
  have t1 := h3 1 (by decide)
  unfold chL chn
  rw [lastO_add, lS_add, lS_add, useL_cons, useL_cons]
  constructor
  · rintro ⟨g1, g2, g3, g4⟩
    refine ⟨⟨h2, g1⟩, fun z hz => ?_, by omega, by omega⟩
    rcases List.mem_cons.mp hz with hz | hz
    · rw [hz]; exact h1
    · exact g2 z hz
  · rintro ⟨g1, g2, g3, g4⟩
    exact ⟨g1.2, fun z hz => g2 z (List.mem_cons_of_mem _ hz), by omega, by omega⟩
theorem chL_other {p : Pl} {lo : Lo} {s t x : Nat} (h : t ≠ s) (k : Nat) (l : List Nat) : chL p (lAdd p lo s x) t k l ↔ chL p lo t k l := by
  unfold chL
  rw [lS_addN p lo x _ h, lS_addN p lo x _ h, lastO_addN p lo x _ h]
theorem VT_left {p : Pl} {lo : Lo} {a b x : Nat} (hx : okx p lo 0 x) (t : List Nat) : VT p (lAdd p lo 0 x) 0 0 a b t ↔ VT p lo 0 0 (a + 1) b (x :: t) := by
  constructor
  · rintro ⟨l, r, rfl, h1, h2, h3, h4, y, z, h5, h6, h7⟩
    rw [lastO_add] at h5
    rw [lastO_addN p lo x 0 (by decide)] at h6
    exact ⟨x :: l, r, rfl, by simp [h1], h2, (chL_same hx l).mp h3, (chL_other (by decide) 0 r).mp h4, y, z, by rw [lastL_cons]; exact h5, h6, h7⟩
  · rintro ⟨l, r, e, h1, h2, h3, h4, y, z, h5, h6, h7⟩
    cases l with
    | nil => simp at h1
    | cons x' l =>
      have e1 : x = x' := (List.cons.inj e).1
      have e2 : t = l ++ r.reverse := (List.cons.inj e).2
      subst e1; subst e2
      rw [lastL_cons] at h5
      refine ⟨l, r, rfl, by simpa using h1, h2, (chL_same hx l).mpr h3, (chL_other (by decide) 0 r).mpr h4, y, z, by rw [lastO_add]; exact h5, by rw [lastO_addN p lo x 0 (by decide)]; exact h6, h7⟩
theorem VT_right {p : Pl} {lo : Lo} {a b x : Nat} (hx : okx p lo 1 x) (t : List Nat) : VT p (lAdd p lo 1 x) 0 0 a b t ↔ VT p lo 0 0 a (b + 1) (t ++ [x]) := by
  constructor
  · rintro ⟨l, r, rfl, h1, h2, h3, h4, y, z, h5, h6, h7⟩
    rw [lastO_add] at h6
    rw [lastO_addN p lo x 0 (by decide)] at h5
    exact ⟨l, x :: r, by simp, h1, by simp [h2], (chL_other (by decide) 0 l).mp h3, (chL_same hx r).mp h4, y, z, h5, by rw [lastL_cons]; exact h6, h7⟩
  · rintro ⟨l, r, e, h1, h2, h3, h4, y, z, h5, h6, h7⟩
    cases r with
    | nil => simp at h2
    | cons x' r =>
      have e' : t ++ [x] = (l ++ r.reverse) ++ [x'] := by rw [e]; simp
      obtain ⟨e2, e1⟩ := List.append_inj' e' rfl
      have e1 : x = x' := by simpa using e1
      subst e1; subst e2
      rw [lastL_cons] at h6
      refine ⟨l, r, rfl, h1, by simpa using h2, (chL_other (by decide) 0 l).mpr h3, (chL_same hx r).mpr h4, y, z, by rw [lastO_addN p lo x 0 (by decide)]; exact h5, by rw [lastO_add]; exact h6, h7⟩
theorem okx_tk {p : Pl} {lo : Lo} (O : PlOK p) {s x : Nat} (h : okx p lo s x) : pTk p x ≤ lS lo s (pCol p x) := by
  have hc := O.col x h.1
  have hcs := O.cols
  have := h.2.2 (pCol p x) (by omega)
  unfold tkc at this
  rwa [if_pos rfl] at this
theorem ok_left {p : Pl} {lo : Lo} {a b x : Nat} {t : List Nat} (h : VT p lo 0 0 (a + 1) b (x :: t)) : okx p lo 0 x := by
  obtain ⟨l, r, e, h1, h2, h3, h4, -⟩ := h
  cases l with
  | nil => simp at h1
  | cons x' l =>
    have e1 : x = x' := (List.cons.inj e).1
    subst e1
    obtain ⟨g1, g2, g3, g4⟩ := h3
    rw [useL_cons] at g3 g4
    refine ⟨g2 x (by simp), g1.1, fun c hc => ?_⟩
    match c, hc with
    | 0, _ => omega
    | 1, _ => omega
theorem ok_right {p : Pl} {lo : Lo} {a b x : Nat} {t : List Nat} (h : VT p lo 0 0 a (b + 1) (t ++ [x])) : okx p lo 1 x := by
  obtain ⟨l, r, e, h1, h2, h3, h4, -⟩ := h
  cases r with
  | nil => simp at h2
  | cons x' r =>
    have e' : t ++ [x] = (l ++ r.reverse) ++ [x'] := by rw [e]; simp
    obtain ⟨-, e1⟩ := List.append_inj' e' rfl
    have e1 : x = x' := by simpa using e1
    subst e1
    obtain ⟨g1, g2, g3, g4⟩ := h4
    rw [useL_cons] at g3 g4
    refine ⟨g2 x (by simp), g1.1, fun c hc => ?_⟩
    match c, hc with
    | 0, _ => omega
    | 1, _ => omega
theorem mt_VT {p : Pl} {lo : Lo} (O : PlOK p) (L : LoOK (pK p) lo) {a b : Nat} : mtB p lo 0 0 a b = true ↔ lC lo 0 + a ≤ 24 ∧ lC lo 1 + b ≤ 24 ∧ fitsB p (unitsN p (lC lo 0 + a) (lC lo 1 + b)) = true ∧ ∃ t, VT p lo 0 0 a b t := by
  rw [mtB_true, jn_VT O L]
  exact Iff.rfl
theorem PB.left {p : Pl} {lo : Lo} (O : PlOK p) (L : LoOK (pK p) lo) {a b x : Nat} {t : List Nat} (h : PB p lo (a + 1) b (x :: t)) : lC lo 0 < 24 ∧ okx p lo 0 x ∧ LoOK (pK p) (lAdd p lo 0 x) ∧ PB p (lAdd p lo 0 x) a b t := by
  have vt := h.vt O L
  have ok := ok_left vt
  obtain ⟨m1, m2, m3, -⟩ := (mt_VT O L).mp h.1.2.2.1
  have hcol := O.col x ok.1
  have hcs := O.cols
  have L' := L.add ok.1 (show lC lo 0 < 24 by omega) (by decide) (by omega)
  have vt' := (VT_left ok t).mpr vt
  have up : ∀ a' b', mtB p (lAdd p lo 0 x) 0 0 a' b' = true → mtB p lo 0 0 (a' + 1) b' = true := by
    intro a' b' hz
    obtain ⟨z1, z2, z3, t', z4⟩ := (mt_VT O L').mp hz
    rw [lC_add] at z1 z3
    rw [lC_addN p lo x (by decide)] at z2 z3
    rw [show lC lo 0 + 1 + a' = lC lo 0 + (a' + 1) by omega] at z1 z3
    exact (mt_VT O L).mpr ⟨z1, z2, z3, x :: t', (VT_left ok t').mp z4⟩
  refine ⟨by omega, ok, L', ⟨Nat.zero_le _, Nat.zero_le _, ?_, fun i' j' a' b' _ _ hz => ?_⟩, by have := h.2.1; simp at this; omega, ?_⟩
  · refine (mt_VT O L').mpr ?_
    rw [lC_add, lC_addN p lo x (by decide), show lC lo 0 + 1 + a = lC lo 0 + (a + 1) by omega]
    exact ⟨m1, m2, m3, t, vt'⟩
  · by_cases e : i' = 0 ∧ j' = 0
    · obtain ⟨rfl, rfl⟩ := e
      have := h.1.2.2.2 0 0 (a' + 1) b' (Nat.zero_le _) (Nat.zero_le _) (up a' b' hz)
      omega
    · omega
  · intro l r u e
    obtain ⟨g1, g2⟩ := h.2.2 (x :: l) r u (by rw [e]; rfl)
    have ex : ∀ q, Ext (VT p (lAdd p lo 0 x) 0 0 a b) (l ++ [q]) ↔ Ext (VT p lo 0 0 (a + 1) b) (x :: l ++ [q]) := fun q => exists_congr fun w => VT_left ok _
    exact ⟨(ex r).mpr g1, fun q hq => g2 q ((ex q).mp hq)⟩
theorem PB.right {p : Pl} {lo : Lo} (O : PlOK p) (L : LoOK (pK p) lo) {a b x : Nat} {t : List Nat} (h : PB p lo a (b + 1) (t ++ [x])) : lC lo 1 < 24 ∧ okx p lo 1 x ∧ LoOK (pK p) (lAdd p lo 1 x) ∧ PB p (lAdd p lo 1 x) a b t := by
  have vt := h.vt O L
  have ok := ok_right vt
  obtain ⟨m1, m2, m3, -⟩ := (mt_VT O L).mp h.1.2.2.1
  have hcol := O.col x ok.1
  have hcs := O.cols
  have L' := L.add ok.1 (show lC lo 1 < 24 by omega) (by decide) (by omega)
  have vt' := (VT_right ok t).mpr vt
  have up : ∀ a' b', mtB p (lAdd p lo 1 x) 0 0 a' b' = true → mtB p lo 0 0 a' (b' + 1) = true := by
    intro a' b' hz
    obtain ⟨z1, z2, z3, t', z4⟩ := (mt_VT O L').mp hz
    rw [lC_add] at z2 z3
    rw [lC_addN p lo x (by decide)] at z1 z3
    rw [show lC lo 1 + 1 + b' = lC lo 1 + (b' + 1) by omega] at z2 z3
    exact (mt_VT O L).mpr ⟨z1, z2, z3, t' ++ [x], (VT_right ok t').mp z4⟩
  refine ⟨by omega, ok, L', ⟨Nat.zero_le _, Nat.zero_le _, ?_, fun i' j' a' b' _ _ hz => ?_⟩, by have := h.2.1; simp at this; omega, ?_⟩
  · refine (mt_VT O L').mpr ?_
    rw [lC_add, lC_addN p lo x (by decide), show lC lo 1 + 1 + b = lC lo 1 + (b + 1) by omega]
    exact ⟨m1, m2, m3, t, vt'⟩
  · by_cases e : i' = 0 ∧ j' = 0
    · obtain ⟨rfl, rfl⟩ := e
      have := h.1.2.2.2 0 0 a' (b' + 1) (Nat.zero_le _) (Nat.zero_le _) (up a' b' hz)
      omega
    · omega
  · intro l r u e
    obtain ⟨-, g2⟩ := h.2.2 l r (u ++ [x]) (by rw [e]; simp)
    refine ⟨⟨u, ?_⟩, fun q hq => ?_⟩
    · rw [List.append_assoc]
      show VT p (lAdd p lo 1 x) 0 0 a b (l ++ r :: u)
      rw [← e]; exact vt'
    · obtain ⟨w, hw⟩ := hq
      exact g2 q ⟨w ++ [x], by have := (VT_right ok _).mp hw; rw [← List.append_assoc]; exact this⟩
/-- rows laid one behind the other -/
def lAdds (p : Pl) (lo : Lo) (s : Nat) (l : List Nat) : Lo := l.foldl (fun lo r => lAdd p lo s r) lo
theorem lAdds_snoc (p : Pl) (lo : Lo) (s : Nat) (l : List Nat) (r : Nat) : lAdds p lo s (l ++ [r]) = lAdd p (lAdds p lo s l) s r := by
  unfold lAdds
  rw [List.foldl_append]
  rfl
theorem lAdd_comm (p : Pl) (lo : Lo) (x y : Nat) : lAdd p (lAdd p lo 1 y) 0 x = lAdd p (lAdd p lo 0 x) 1 y := by
  have e1 : ∀ z, lC (lAdd p lo 1 z) 0 = lC lo 0 := fun z => lC_addN p lo z (by decide)
  have e2 : ∀ z, lC (lAdd p lo 0 z) 1 = lC lo 1 := fun z => lC_addN p lo z (by decide)
  have e3 : ∀ z c, lS (lAdd p lo 1 z) 0 c = lS lo 0 c := fun z c => lS_addN p lo z c (by decide)
  have e4 : ∀ z c, lS (lAdd p lo 0 z) 1 c = lS lo 1 c := fun z c => lS_addN p lo z c (by decide)
  have h1 : u1 (lC (lAdd p lo 1 y)) 0 (lC (lAdd p lo 1 y) 0 + 1) = u1 (lC (lAdd p lo 0 x)) 1 (lC (lAdd p lo 0 x) 1 + 1) := by
    rw [e1, e2]
    funext t
    show u1 (u1 (lC lo) 1 (lC lo 1 + 1)) 0 (lC lo 0 + 1) t = u1 (u1 (lC lo) 0 (lC lo 0 + 1)) 1 (lC lo 1 + 1) t
    unfold u1
    by_cases a : t = 0 <;> by_cases b : t = 1 <;> simp [a, b]
  have h2 : u2 (lR (lAdd p lo 1 y)) 0 (lC (lAdd p lo 1 y) 0) x = u2 (lR (lAdd p lo 0 x)) 1 (lC (lAdd p lo 0 x) 1) y := by
    rw [e1, e2]
    funext t i
    show u2 (u2 (lR lo) 1 (lC lo 1) y) 0 (lC lo 0) x t i = u2 (u2 (lR lo) 0 (lC lo 0) x) 1 (lC lo 1) y t i
    unfold u2
    by_cases a : t = 0 <;> by_cases b : t = 1 <;> simp [a, b]
  have h3 : u2 (lS (lAdd p lo 1 y)) 0 (pCol p x) (lS (lAdd p lo 1 y) 0 (pCol p x) - pTk p x) = u2 (lS (lAdd p lo 0 x)) 1 (pCol p y) (lS (lAdd p lo 0 x) 1 (pCol p y) - pTk p y) := by
    rw [e3, e4]
    funext t i
    show u2 (u2 (lS lo) 1 (pCol p y) (lS lo 1 (pCol p y) - pTk p y)) 0 (pCol p x) (lS lo 0 (pCol p x) - pTk p x) t i = u2 (u2 (lS lo) 0 (pCol p x) (lS lo 0 (pCol p x) - pTk p x)) 1 (pCol p y) (lS lo 1 (pCol p y) - pTk p y) t i
    unfold u2
    by_cases a : t = 0 <;> by_cases b : t = 1 <;> simp [a, b]
  show (_, _, _, _, _) = (_, _, _, _, _)
  rw [h1, h2, h3]
  rfl
theorem lAdds_comm (p : Pl) (x : Nat) : ∀ (r : List Nat) (lo : Lo), lAdd p (lAdds p lo 1 r) 0 x = lAdds p (lAdd p lo 0 x) 1 r
  | [], lo => rfl
  | y :: r, lo => by
    show lAdd p (lAdds p (lAdd p lo 1 y) 1 r) 0 x = lAdds p (lAdd p (lAdd p lo 0 x) 1 y) 1 r
    rw [lAdds_comm p x r, lAdd_comm]
def lWk (lo : Lo) (k : Nat) : Lo := (lo.1, lo.2.1, lo.2.2.1, lo.2.2.2.1, lo.2.2.2.2 + k)
theorem lWk_add (p : Pl) (lo : Lo) (k s r : Nat) : lAdd p (lWk lo k) s r = lWk (lAdd p lo s r) k := rfl
theorem lWk_adds (p : Pl) (k s : Nat) : ∀ (l : List Nat) (lo : Lo), lAdds p (lWk lo k) s l = lWk (lAdds p lo s l) k
  | [], lo => rfl
  | r :: l, lo => by
    show lAdds p (lAdd p (lWk lo k) s r) s l = lWk (lAdds p (lAdd p lo s r) s l) k
    rw [lWk_add, lWk_adds p k s l]
/-- l and r are woven, u is left -/
def WK (p : Pl) (lo : Lo) (a b : Nat) (t l u r : List Nat) : Prop := t = l ++ u ++ r.reverse ∧ l.length ≤ a ∧ r.length ≤ b ∧ LoOK (pK p) (lAdds p (lAdds p lo 0 l) 1 r) ∧ PB p (lAdds p (lAdds p lo 0 l) 1 r) (a - l.length) (b - r.length) u
theorem WK.left {p : Pl} {lo : Lo} (O : PlOK p) {a b : Nat} {t l u r : List Nat} {x : Nat} (h : WK p lo a b t l (x :: u) r) (ha : l.length < a) : lC (lAdds p (lAdds p lo 0 l) 1 r) 0 < 24 ∧ okx p (lAdds p (lAdds p lo 0 l) 1 r) 0 x ∧ lAdd p (lAdds p (lAdds p lo 0 l) 1 r) 0 x = lAdds p (lAdds p lo 0 (l ++ [x])) 1 r ∧ WK p lo a b t (l ++ [x]) u r := by
  obtain ⟨h1, h2, h3, h4, h5⟩ := h
  rw [show a - l.length = (a - l.length - 1) + 1 by omega] at h5
  obtain ⟨g1, g2, g3, g4⟩ := h5.left O h4
  have e : lAdd p (lAdds p (lAdds p lo 0 l) 1 r) 0 x = lAdds p (lAdds p lo 0 (l ++ [x])) 1 r := by rw [lAdds_comm, lAdds_snoc]
  rw [e] at g3 g4
  refine ⟨g1, g2, e, by rw [h1]; simp, by simp; omega, h3, g3, ?_⟩
  rw [show a - (l ++ [x]).length = a - l.length - 1 by simp; omega]
  exact g4
theorem WK.right {p : Pl} {lo : Lo} (O : PlOK p) {a b : Nat} {t l u r : List Nat} {x : Nat} (h : WK p lo a b t l (u ++ [x]) r) (hb : r.length < b) : lC (lAdds p (lAdds p lo 0 l) 1 r) 1 < 24 ∧ okx p (lAdds p (lAdds p lo 0 l) 1 r) 1 x ∧ lAdd p (lAdds p (lAdds p lo 0 l) 1 r) 1 x = lAdds p (lAdds p lo 0 l) 1 (r ++ [x]) ∧ WK p lo a b t l u (r ++ [x]) := by
  obtain ⟨h1, h2, h3, h4, h5⟩ := h
  rw [show b - r.length = (b - r.length - 1) + 1 by omega] at h5
  obtain ⟨g1, g2, g3, g4⟩ := h5.right O h4
  have e : lAdd p (lAdds p (lAdds p lo 0 l) 1 r) 1 x = lAdds p (lAdds p lo 0 l) 1 (r ++ [x]) := by rw [lAdds_snoc]
  rw [e] at g3 g4
  refine ⟨g1, g2, e, by rw [h1]; simp, h2, by simp; omega, g3, ?_⟩
  rw [show b - (r ++ [x]).length = b - r.length - 1 by simp; omega]
  exact g4
theorem WK.end {p : Pl} {lo : Lo} {a b : Nat} {t l u r : List Nat} (h : WK p lo a b t l u r) : l = t.take l.length ∧ r = t.reverse.take r.length := by
  obtain ⟨h1, -⟩ := h
  subst h1
  constructor
  · rw [List.append_assoc, List.take_left]
  · rw [List.reverse_append, List.reverse_reverse, List.take_left]
