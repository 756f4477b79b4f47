/-! THE ROWS OF A MEETING: which sequences are right, and the least one -/
theorem nxt_cons (R : Nat → Nat → Bool) (F : Nat → Bool) (q : Nat) (l : List Nat) : nxt R (R q) l.getLast? = nxt R F (q :: l).getLast? := by
  cases l with
  | nil => rfl
  | cons a l =>
    rw [List.getLast?_cons_cons]
    cases h : (a :: l).getLast? with
    | none => simp at h
    | some z => rfl
theorem pthR_app (R : Nat → Nat → Bool) : ∀ (F : Nat → Bool) (l l' : List Nat), pthR R F (l ++ l') ↔ pthR R F l ∧ pthR R (nxt R F l.getLast?) l'
  | F, [], l' => by
    show pthR R F l' ↔ True ∧ pthR R F l'
    rw [true_and]
  | F, q :: l, l' => by
    have ih := pthR_app R (R q) l l'
    rw [nxt_cons R F q l] at ih
    show (F q = true ∧ pthR R (R q) (l ++ l')) ↔ (F q = true ∧ pthR R (R q) l) ∧ _
    rw [ih, and_assoc]
theorem pthR_rev (R S : Nat → Nat → Bool) (hS : ∀ x y, S x y = R y x) (F : Nat → Bool) : ∀ (r : Nat) (l : List Nat), pthR S F (r :: l).reverse ↔ pthR R (R r) l ∧ ∃ e, (r :: l).getLast? = some e ∧ F e = true
  | r, [] => by
    constructor
    · intro h
      exact ⟨trivial, r, rfl, h.1⟩
    · rintro ⟨-, e, h1, h2⟩
      cases h1
      exact ⟨h2, trivial⟩
  | r, q :: l => by
    have ih := pthR_rev R S hS F q l
    have e1 : (r :: q :: l).reverse = (q :: l).reverse ++ [r] := by simp
    have e2 : (q :: l).reverse.getLast? = some q := by simp
    rw [e1, pthR_snoc, ih, e2, List.getLast?_cons_cons]
    show (pthR R (R q) l ∧ _) ∧ S q r = true ↔ (R r q = true ∧ pthR R (R q) l) ∧ _
    rw [hS]
    constructor
    · rintro ⟨⟨h1, h2⟩, h3⟩; exact ⟨⟨h3, h1⟩, h2⟩
    · rintro ⟨⟨h3, h1⟩, h2⟩; exact ⟨⟨h1, h2⟩, h3⟩
theorem useL_rev (p : Pl) (c : Nat) : ∀ l : List Nat, useL p c l.reverse = useL p c l
  | [] => rfl
  | r :: l => by
    rw [List.reverse_cons, useL_snoc, useL_rev p c l]
    show useL p c l + tkc p r c = tkc p r c + useL p c l
    omega
def chn (p : Pl) (s s0 s1 : Nat) (o : Option Nat) (l : List Nat) : Prop := pthR (fol p s) (folO p s o) l ∧ (∀ x, x ∈ l → x < pK p) ∧ useL p 0 l ≤ s0 ∧ useL p 1 l ≤ s1
def chL (p : Pl) (lo : Lo) (s i : Nat) (l : List Nat) : Prop := chn p s (lS lo s 0) (lS lo s 1) (lastO lo s i) l
theorem EL_chn {p : Pl} {lo : Lo} {s k n e : Nat} : EL p lo s k n e = true ↔ ∃ l, l.length = n ∧ chL p lo s k l ∧ lastL (lastO lo s k) l = some e := by
  unfold EL
  rw [EB_iff p s _ _ n _ 0 0 e (Nat.zero_le _) (Nat.zero_le _)]
  constructor
  · rintro ⟨l, h1, h2, h3, h4, h5, h6⟩
    exact ⟨l, h1, ⟨h2, h3, by omega, by omega⟩, h6⟩
  · rintro ⟨l, h1, ⟨h2, h3, h4, h5⟩, h6⟩
    exact ⟨l, h1, h2, h3, by omega, by omega, h6⟩
def VT (p : Pl) (lo : Lo) (i j a b : Nat) (t : List Nat) : Prop := ∃ l r, t = l ++ r.reverse ∧ l.length = a ∧ r.length = b ∧ chL p lo 0 i l ∧ chL p lo 1 j r ∧ ∃ x y, lastL (lastO lo 0 i) l = some x ∧ lastL (lastO lo 1 j) r = some y ∧ pNx p x y = true
theorem VT.len {p : Pl} {lo : Lo} {i j a b : Nat} {t : List Nat} (h : VT p lo i j a b t) : t.length = a + b := by
  obtain ⟨l, r, rfl, h1, h2, -⟩ := h
  simp [h1, h2]
theorem VT.lt {p : Pl} {lo : Lo} {i j a b : Nat} {t : List Nat} (h : VT p lo i j a b t) : ∀ x, x ∈ t → x < pK p := by
  obtain ⟨l, r, rfl, h1, h2, h3, h4, -⟩ := h
  intro x hx
  rcases List.mem_append.mp hx with z | z
  · exact h3.2.1 x z
  · exact h4.2.1 x (List.mem_reverse.mp z)
theorem lastO_ltK {p : Pl} {lo : Lo} (L : LoOK (pK p) lo) {s k : Nat} (hs : s < 2) {l : List Nat} {x : Nat} (h : ∀ z, z ∈ l → z < pK p) (e : lastL (lastO lo s k) l = some x) : x < pK p := by
  unfold lastL at e
  cases q : l.getLast? with
  | none => rw [q] at e; exact lastO_lt L hs e
  | some z =>
    rw [q] at e
    cases e
    exact h _ (List.mem_of_getLast? q)
theorem jn_VT {p : Pl} {lo : Lo} (O : PlOK p) (L : LoOK (pK p) lo) {i j a b : Nat} : jn p (EL p lo 0 i a) (EL p lo 1 j b) = true ↔ ∃ t, VT p lo i j a b t := by
  rw [jn_true O.kinds]
  constructor
  · rintro ⟨x, y, h1, h2, h3, h4, h5⟩
    obtain ⟨l, l1, l2, l3⟩ := EL_chn.mp h1
    obtain ⟨r, r1, r2, r3⟩ := EL_chn.mp h2
    exact ⟨_, l, r, rfl, l1, r1, l2, r2, x, y, l3, r3, h3⟩
  · rintro ⟨_, l, r, rfl, l1, r1, l2, r2, x, y, l3, r3, h3⟩
    exact ⟨x, y, EL_chn.mpr ⟨l, l1, l2, l3⟩, EL_chn.mpr ⟨r, r1, r2, r3⟩, h3, O.nx x y h3⟩
/-! greedy sequences -/
def Ext (V : List Nat → Prop) (pre : List Nat) : Prop := ∃ u, V (pre ++ u)
def LeastE (V : List Nat → Prop) (pre : List Nat) (r : Nat) : Prop := Ext V (pre ++ [r]) ∧ ∀ r', Ext V (pre ++ [r']) → r ≤ r'
def Grd (V : List Nat → Prop) (t : List Nat) : Prop := ∀ l r u, t = l ++ r :: u → LeastE V l r
theorem Grd.nil (V : List Nat → Prop) : Grd V [] := by
  intro l r u h
  simp at h
theorem Grd.snoc {V : List Nat → Prop} {t : List Nat} {r : Nat} (h : Grd V t) (g : LeastE V t r) : Grd V (t ++ [r]) := by
  intro l x u e
  rcases List.eq_nil_or_concat u with rfl | ⟨u', y, rfl⟩
  · have := List.append_inj' e rfl
    obtain ⟨rfl, e2⟩ := this
    cases e2
    exact g
  · have e' : t ++ [r] = (l ++ x :: u') ++ [y] := by rw [e]; simp [List.concat_eq_append]
    obtain ⟨e1, -⟩ := List.append_inj' e' rfl
    exact h l x u' e1
theorem Grd.pre {V : List Nat → Prop} {t u : List Nat} (h : Grd V (t ++ u)) : Grd V t := by
  intro l x w e
  exact h l x (w ++ u) (by rw [e]; simp)
theorem Grd.last {V : List Nat → Prop} {t : List Nat} {r : Nat} (h : Grd V (t ++ [r])) : LeastE V t r := h t r [] rfl
theorem Grd.uniq {V : List Nat → Prop} : ∀ (n : Nat) (t t' : List Nat), t.length = n → t'.length = n → Grd V t → Grd V t' → t = t'
  | 0, t, t', h1, h2, _, _ => by
    rw [List.length_eq_zero_iff.mp h1, List.length_eq_zero_iff.mp h2]
  | n + 1, t, t', h1, h2, g1, g2 => by
    rcases List.eq_nil_or_concat t with rfl | ⟨l, r, rfl⟩
    · simp at h1
    rcases List.eq_nil_or_concat t' with rfl | ⟨l', r', rfl⟩
    · simp at h2
    rw [List.concat_eq_append] at *
    have e := Grd.uniq n l l' (by simpa using h1) (by simpa using h2) g1.pre g2.pre
    subst e
    have a1 := g1.last
    have a2 := g2.last
    have := a1.2 r' a2.1
    have := a2.2 r a1.1
    have e : r = r' := by omega
    subst e
    simp
theorem Grd.valid {V : List Nat → Prop} {n : Nat} (hV : ∀ t, V t → t.length = n) {t : List Nat} (h : Grd V t) (hl : t.length = n) (he : ∃ t', V t') : V t := by
  rcases List.eq_nil_or_concat t with rfl | ⟨l, r, rfl⟩
  · obtain ⟨t', ht'⟩ := he
    have : t' = [] := List.length_eq_zero_iff.mp (by rw [hV t' ht', ← hl]; rfl)
    rw [← this]; exact ht'
  · rw [List.concat_eq_append] at *
    obtain ⟨u, hu⟩ := h.last.1
    have := hV _ hu
    have : u = [] := List.length_eq_zero_iff.mp (by rw [List.length_append] at this; omega)
    subst this
    rw [List.append_nil] at hu
    exact hu
/-! what may come next: at the left -/
theorem Ext_left {p : Pl} {lo : Lo} {i j a b : Nat} {pre : List Nat} {r : Nat} (hp : pre.length < a) : Ext (VT p lo i j a b) (pre ++ [r]) ↔ ∃ l2 e q, pre.length + 1 + l2.length = a ∧ chL p lo 0 i (pre ++ r :: l2) ∧ lastL (some r) l2 = some e ∧ EL p lo 1 j b q = true ∧ pNx p e q = true := by
  have lst : ∀ l2 : List Nat, lastL (lastO lo 0 i) (pre ++ r :: l2) = lastL (some r) l2 := by
    intro l2
    unfold lastL
    rw [List.getLast?_append]
    cases l2 with
    | nil => rfl
    | cons z l2 =>
      rw [List.getLast?_cons_cons]
      cases q : (z :: l2).getLast? with
      | none => simp at q
      | some w => rfl
  constructor
  · rintro ⟨u, l, rr, e, l1, r1, l2, r2, x, y, l3, r3, h3⟩
    have e : pre ++ r :: u = l ++ rr.reverse := by rw [← e]; simp
    have hu : u.length + pre.length + 1 = a + b := by
      have := congrArg List.length e
      simp at this
      omega
    have el : l = pre ++ r :: u.take (a - pre.length - 1) := by
      have := congrArg (List.take a) e
      rw [List.take_append, List.take_of_length_le (by omega)] at this
      have h2 : (l ++ rr.reverse).take a = l := by rw [← l1]; simp
      rw [h2] at this
      rw [← this, show a - pre.length = (a - pre.length - 1) + 1 by omega, List.take_succ_cons]
      rfl
    subst el
    rw [lst] at l3
    refine ⟨u.take (a - pre.length - 1), x, y, ?_, l2, l3, EL_chn.mpr ⟨rr, r1, r2, r3⟩, h3⟩
    have := l1
    simp at this ⊢
    omega
  · rintro ⟨l2, e, q, h1, h2, h3, h4, h5⟩
    obtain ⟨rr, r1, r2, r3⟩ := EL_chn.mp h4
    refine ⟨l2 ++ rr.reverse, pre ++ r :: l2, rr, by simp, by simp; omega, r1, h2, r2, e, q, by rw [lst]; exact h3, r3, h5⟩
/-! at the right: w was told behind the whole left part l -/
theorem Ext_right {p : Pl} {lo : Lo} {i j a b : Nat} {l w : List Nat} {r : Nat} (hl : l.length = a) (hw : w.length < b) (hc : chL p lo 0 i l) {x : Nat} (hx : lastL (lastO lo 0 i) l = some x) : Ext (VT p lo i j a b) (l ++ w ++ [r]) ↔ ∃ c y, c.length + 1 + w.length = b ∧ chL p lo 1 j (c ++ r :: w.reverse) ∧ lastL (some r) w.reverse = some y ∧ pNx p x y = true := by
  have lst : ∀ c : List Nat, lastL (lastO lo 1 j) (c ++ r :: w.reverse) = lastL (some r) w.reverse := by
    intro c
    unfold lastL
    rw [List.getLast?_append]
    cases q : w.reverse with
    | nil => rfl
    | cons z l2 =>
      rw [List.getLast?_cons_cons]
      cases q : (z :: l2).getLast? with
      | none => simp at q
      | some w => rfl
  constructor
  · rintro ⟨u, l', rr, e, l1, r1, l2, r2, x', y, l3, r3, h3⟩
    rw [List.append_assoc, List.append_assoc] at e
    obtain ⟨rfl, e2⟩ := List.append_inj e (by omega)
    rw [hx] at l3
    cases l3
    have er : rr = u.reverse ++ r :: w.reverse := by
      have := congrArg List.reverse e2
      rw [List.reverse_reverse] at this
      rw [← this]; simp
    subst er
    rw [lst] at r3
    exact ⟨u.reverse, y, by simp at r1 ⊢; omega, r2, r3, h3⟩
  · rintro ⟨c, y, h1, h2, h3, h4⟩
    exact ⟨c.reverse, l, c ++ r :: w.reverse, by simp, hl, by simp; omega, hc, h2, x, y, hx, by rw [lst]; exact h3, h4⟩
