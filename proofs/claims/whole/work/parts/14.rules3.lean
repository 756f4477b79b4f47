/-! CONDITIONS, ARGUMENTS, CALLS, NEW OBJECTS -/
def Jm1 {α : Type} (G : qG) (K : qK) (pc pt pf : Nat) (π : α → List Value) (f : α → Bool) : Prop := ∀ w mt b vF MF, Mx G K w mt b vF MF → ∀ (x : α) (st : List Value) (ls : Array Slot) (H : Heap) (locs : List Loc) (cells slots : Nat), w H locs cells slots (F0 mt (if f x = true then pt else pf) ls st) → w H locs cells slots (F0 mt pc ls (π x ++ st))
def Jm2 {α β : Type} (G : qG) (K : qK) (pc pt pf : Nat) (π : α → List Value) (ρ : β → List Value) (f : α → β → Bool) : Prop := ∀ w mt b vF MF, Mx G K w mt b vF MF → ∀ (x : α) (y : β) (st : List Value) (ls : Array Slot) (H : Heap) (locs : List Loc) (cells slots : Nat), w H locs cells slots (F0 mt (if f x y = true then pt else pf) ls st) → w H locs cells slots (F0 mt pc ls (ρ y ++ (π x ++ st)))
def zEq (x : Int32) : Bool := decide (x = 0)
def zLt (x : Int32) : Bool := decide (x < 0)
def zLe (x : Int32) : Bool := decide (x ≤ 0)
def zGt (x : Int32) : Bool := decide (0 < x)
def zGe (x : Int32) : Bool := decide (0 ≤ x)
section RC
variable {G : qG} {K : qK}
theorem xc1 {α : Type} {d pc p1 pt pf : Nat} {π : α → List Value} {a : Ev α} {f : α → Bool} (ha : XP G K d pc p1 π a) (hq : Jm1 G K p1 pt pf π f) : XC G K d pc pt pf (b1 f a) := by
  refine ⟨fun env M x M' h => ?_, ?_⟩
  · obtain ⟨r, h1, h2⟩ := bnd h
    cases h2
    exact ha.1 env M r.1 r.2 h1
  · intro w mt b vF MF hm env M x M' hf hn hu st ls H locs cells slots hst hl ho kk
    obtain ⟨r, h1, h2⟩ := bnd hf
    cases h2
    exact ha.2 w mt b vF MF hm env M r.1 r.2 h1 hn hu st ls H locs cells slots hst hl ho (fun H' l' c' s' o' => hq w mt b vF MF hm r.1 st ls H' l' c' s' (kk H' l' c' s' o'))
theorem xc2 {α β : Type} {d1 d2 k pc p1 p2 pt pf : Nat} {π : α → List Value} {ρ : β → List Value} {a : Ev α} {c : Ev β} {f : α → β → Bool} (ha : XP G K d1 pc p1 π a) (hπ : ∀ x, wt (π x) ≤ k) (hc : XP G K d2 p1 p2 ρ c) (hq : Jm2 G K p2 pt pf π ρ f) : XC G K (max d1 (d2 + k)) pc pt pf (b2 f a c) := by
  refine ⟨fun env M x M' h => ?_, ?_⟩
  · obtain ⟨r, h1, h2⟩ := bnd h
    obtain ⟨q, h3, h4⟩ := bnd h2
    cases h4
    have a1 := ha.1 env M r.1 r.2 h1
    have a2 := hc.1 env r.2 q.1 q.2 h3
    exact ⟨by omega, by omega⟩
  · intro w mt b vF MF hm env M x M' hf hn hu st ls H locs cells slots hst hl ho kk
    obtain ⟨r, h1, h2⟩ := bnd hf
    obtain ⟨q, h3, h4⟩ := bnd h2
    cases h4
    have a2 := hc.1 env r.2 q.1 q.2 h3
    refine ha.2 w mt b vF MF hm env M r.1 r.2 h1 (by omega) (by omega) st ls H locs cells slots (by omega) hl ho (fun H' l' c' s' o' => ?_)
    have hw := hπ r.1
    exact hc.2 w mt b vF MF hm env r.2 q.1 q.2 h3 (by omega) (by omega) (π r.1 ++ st) ls H' l' c' s' (by rw [wt_app]; omega) hl o' (fun H'' l'' c'' s'' o'' => hq w mt b vF MF hm r.1 q.1 st ls H'' l'' c'' s'' (kk H'' l'' c'' s'' o''))

theorem j_eq {pc tgt : Nat} {off : Int} (hd : decode (kC K) pc = .ok (.if_icmp .eq off, 3)) (ht : (pc : Int) + off = (tgt : Int)) : Jm2 G K pc tgt (pc + 3) piI piI iEq := by
  intro w mt b vF MF hm x y st ls H locs cells slots kk
  obtain ⟨p, e, R, s, args, below, meth, c, Q, rfl, hx, hb, hml, hown, hK, hnm, hR1, hR2, hR3, hR4, hret⟩ := hm
  refine lv_icmp_eq hx hb hd ht (fun h => ?_) (fun h => ?_)
  · have k2 : (iEq x y = true) := by simp only [iEq]; first | exact decide_eq_true h | exact decide_eq_false (fun z => absurd h (by first | exact z | exact Int32.not_le.mpr z | exact Int32.not_lt.mpr z | exact fun q => z q | exact fun q => absurd q z)) | simpa using h
    simp only [k2] at kk; simpa using kk
  · have k2 : (iEq x y = false) := by simp only [iEq]; first | exact decide_eq_false h | exact decide_eq_true (by first | exact h | exact Int32.not_le.mp h | exact Int32.not_lt.mp h | exact Classical.not_not.mp h) | simpa using h
    simp only [k2] at kk; simpa using kk
theorem n_eq {pc tgt : Nat} {off : Int} (hd : decode (kC K) pc = .ok (.if_icmp .eq off, 3)) (ht : (pc : Int) + off = (tgt : Int)) : Jm2 G K pc (pc + 3) tgt piI piI iNe := by
  intro w mt b vF MF hm x y st ls H locs cells slots kk
  obtain ⟨p, e, R, s, args, below, meth, c, Q, rfl, hx, hb, hml, hown, hK, hnm, hR1, hR2, hR3, hR4, hret⟩ := hm
  refine lv_icmp_eq hx hb hd ht (fun h => ?_) (fun h => ?_)
  · have k2 : (iNe x y = false) := by simp only [iNe]; first | exact decide_eq_true h | exact decide_eq_false (fun z => absurd h (by first | exact z | exact Int32.not_le.mpr z | exact Int32.not_lt.mpr z | exact fun q => z q | exact fun q => absurd q z)) | simpa using h
    simp only [k2] at kk; simpa using kk
  · have k2 : (iNe x y = true) := by simp only [iNe]; first | exact decide_eq_false h | exact decide_eq_true (by first | exact h | exact Int32.not_le.mp h | exact Int32.not_lt.mp h | exact Classical.not_not.mp h) | simpa using h
    simp only [k2] at kk; simpa using kk
theorem j_ne {pc tgt : Nat} {off : Int} (hd : decode (kC K) pc = .ok (.if_icmp .ne off, 3)) (ht : (pc : Int) + off = (tgt : Int)) : Jm2 G K pc tgt (pc + 3) piI piI iNe := by
  intro w mt b vF MF hm x y st ls H locs cells slots kk
  obtain ⟨p, e, R, s, args, below, meth, c, Q, rfl, hx, hb, hml, hown, hK, hnm, hR1, hR2, hR3, hR4, hret⟩ := hm
  refine lv_icmp_ne hx hb hd ht (fun h => ?_) (fun h => ?_)
  · have k2 : (iNe x y = true) := by simp only [iNe]; first | exact decide_eq_true h | exact decide_eq_false (fun z => absurd h (by first | exact z | exact Int32.not_le.mpr z | exact Int32.not_lt.mpr z | exact fun q => z q | exact fun q => absurd q z)) | simpa using h
    simp only [k2] at kk; simpa using kk
  · have k2 : (iNe x y = false) := by simp only [iNe]; first | exact decide_eq_false h | exact decide_eq_true (by first | exact h | exact Int32.not_le.mp h | exact Int32.not_lt.mp h | exact Classical.not_not.mp h) | simpa using h
    simp only [k2] at kk; simpa using kk
theorem n_ne {pc tgt : Nat} {off : Int} (hd : decode (kC K) pc = .ok (.if_icmp .ne off, 3)) (ht : (pc : Int) + off = (tgt : Int)) : Jm2 G K pc (pc + 3) tgt piI piI iEq := by
  intro w mt b vF MF hm x y st ls H locs cells slots kk
  obtain ⟨p, e, R, s, args, below, meth, c, Q, rfl, hx, hb, hml, hown, hK, hnm, hR1, hR2, hR3, hR4, hret⟩ := hm
  refine lv_icmp_ne hx hb hd ht (fun h => ?_) (fun h => ?_)
  · have k2 : (iEq x y = false) := by simp only [iEq]; first | exact decide_eq_true h | exact decide_eq_false (fun z => absurd h (by first | exact z | exact Int32.not_le.mpr z | exact Int32.not_lt.mpr z | exact fun q => z q | exact fun q => absurd q z)) | simpa using h
    simp only [k2] at kk; simpa using kk
  · have k2 : (iEq x y = true) := by simp only [iEq]; first | exact decide_eq_false h | exact decide_eq_true (by first | exact h | exact Int32.not_le.mp h | exact Int32.not_lt.mp h | exact Classical.not_not.mp h) | simpa using h
    simp only [k2] at kk; simpa using kk
theorem j_lt {pc tgt : Nat} {off : Int} (hd : decode (kC K) pc = .ok (.if_icmp .lt off, 3)) (ht : (pc : Int) + off = (tgt : Int)) : Jm2 G K pc tgt (pc + 3) piI piI iLt := by
  intro w mt b vF MF hm x y st ls H locs cells slots kk
  obtain ⟨p, e, R, s, args, below, meth, c, Q, rfl, hx, hb, hml, hown, hK, hnm, hR1, hR2, hR3, hR4, hret⟩ := hm
  refine lv_icmp_lt hx hb hd ht (fun h => ?_) (fun h => ?_)
  · have k2 : (iLt x y = true) := by simp only [iLt]; first | exact decide_eq_true h | exact decide_eq_false (fun z => absurd h (by first | exact z | exact Int32.not_le.mpr z | exact Int32.not_lt.mpr z | exact fun q => z q | exact fun q => absurd q z)) | simpa using h
    simp only [k2] at kk; simpa using kk
  · have k2 : (iLt x y = false) := by simp only [iLt]; first | exact decide_eq_false h | exact decide_eq_true (by first | exact h | exact Int32.not_le.mp h | exact Int32.not_lt.mp h | exact Classical.not_not.mp h) | simpa using h
    simp only [k2] at kk; simpa using kk
theorem n_lt {pc tgt : Nat} {off : Int} (hd : decode (kC K) pc = .ok (.if_icmp .lt off, 3)) (ht : (pc : Int) + off = (tgt : Int)) : Jm2 G K pc (pc + 3) tgt piI piI iGe := by
  intro w mt b vF MF hm x y st ls H locs cells slots kk
  obtain ⟨p, e, R, s, args, below, meth, c, Q, rfl, hx, hb, hml, hown, hK, hnm, hR1, hR2, hR3, hR4, hret⟩ := hm
  refine lv_icmp_lt hx hb hd ht (fun h => ?_) (fun h => ?_)
  · have k2 : (iGe x y = false) := by simp only [iGe]; first | exact decide_eq_true h | exact decide_eq_false (fun z => absurd h (by first | exact z | exact Int32.not_le.mpr z | exact Int32.not_lt.mpr z | exact fun q => z q | exact fun q => absurd q z)) | simpa using h
    simp only [k2] at kk; simpa using kk
  · have k2 : (iGe x y = true) := by simp only [iGe]; first | exact decide_eq_false h | exact decide_eq_true (by first | exact h | exact Int32.not_le.mp h | exact Int32.not_lt.mp h | exact Classical.not_not.mp h) | simpa using h
    simp only [k2] at kk; simpa using kk
theorem j_ge {pc tgt : Nat} {off : Int} (hd : decode (kC K) pc = .ok (.if_icmp .ge off, 3)) (ht : (pc : Int) + off = (tgt : Int)) : Jm2 G K pc tgt (pc + 3) piI piI iGe := by
  intro w mt b vF MF hm x y st ls H locs cells slots kk
  obtain ⟨p, e, R, s, args, below, meth, c, Q, rfl, hx, hb, hml, hown, hK, hnm, hR1, hR2, hR3, hR4, hret⟩ := hm
  refine lv_icmp_ge hx hb hd ht (fun h => ?_) (fun h => ?_)
  · have k2 : (iGe x y = true) := by simp only [iGe]; first | exact decide_eq_true h | exact decide_eq_false (fun z => absurd h (by first | exact z | exact Int32.not_le.mpr z | exact Int32.not_lt.mpr z | exact fun q => z q | exact fun q => absurd q z)) | simpa using h
    simp only [k2] at kk; simpa using kk
  · have k2 : (iGe x y = false) := by simp only [iGe]; first | exact decide_eq_false h | exact decide_eq_true (by first | exact h | exact Int32.not_le.mp h | exact Int32.not_lt.mp h | exact Classical.not_not.mp h) | simpa using h
    simp only [k2] at kk; simpa using kk
theorem n_ge {pc tgt : Nat} {off : Int} (hd : decode (kC K) pc = .ok (.if_icmp .ge off, 3)) (ht : (pc : Int) + off = (tgt : Int)) : Jm2 G K pc (pc + 3) tgt piI piI iLt := by
  intro w mt b vF MF hm x y st ls H locs cells slots kk
  obtain ⟨p, e, R, s, args, below, meth, c, Q, rfl, hx, hb, hml, hown, hK, hnm, hR1, hR2, hR3, hR4, hret⟩ := hm
  refine lv_icmp_ge hx hb hd ht (fun h => ?_) (fun h => ?_)
  · have k2 : (iLt x y = false) := by simp only [iLt]; first | exact decide_eq_true h | exact decide_eq_false (fun z => absurd h (by first | exact z | exact Int32.not_le.mpr z | exact Int32.not_lt.mpr z | exact fun q => z q | exact fun q => absurd q z)) | simpa using h
    simp only [k2] at kk; simpa using kk
  · have k2 : (iLt x y = true) := by simp only [iLt]; first | exact decide_eq_false h | exact decide_eq_true (by first | exact h | exact Int32.not_le.mp h | exact Int32.not_lt.mp h | exact Classical.not_not.mp h) | simpa using h
    simp only [k2] at kk; simpa using kk
theorem j_gt {pc tgt : Nat} {off : Int} (hd : decode (kC K) pc = .ok (.if_icmp .gt off, 3)) (ht : (pc : Int) + off = (tgt : Int)) : Jm2 G K pc tgt (pc + 3) piI piI iGt := by
  intro w mt b vF MF hm x y st ls H locs cells slots kk
  obtain ⟨p, e, R, s, args, below, meth, c, Q, rfl, hx, hb, hml, hown, hK, hnm, hR1, hR2, hR3, hR4, hret⟩ := hm
  refine lv_icmp_gt hx hb hd ht (fun h => ?_) (fun h => ?_)
  · have k2 : (iGt x y = true) := by simp only [iGt]; first | exact decide_eq_true h | exact decide_eq_false (fun z => absurd h (by first | exact z | exact Int32.not_le.mpr z | exact Int32.not_lt.mpr z | exact fun q => z q | exact fun q => absurd q z)) | simpa using h
    simp only [k2] at kk; simpa using kk
  · have k2 : (iGt x y = false) := by simp only [iGt]; first | exact decide_eq_false h | exact decide_eq_true (by first | exact h | exact Int32.not_le.mp h | exact Int32.not_lt.mp h | exact Classical.not_not.mp h) | simpa using h
    simp only [k2] at kk; simpa using kk
theorem n_gt {pc tgt : Nat} {off : Int} (hd : decode (kC K) pc = .ok (.if_icmp .gt off, 3)) (ht : (pc : Int) + off = (tgt : Int)) : Jm2 G K pc (pc + 3) tgt piI piI iLe := by
  intro w mt b vF MF hm x y st ls H locs cells slots kk
  obtain ⟨p, e, R, s, args, below, meth, c, Q, rfl, hx, hb, hml, hown, hK, hnm, hR1, hR2, hR3, hR4, hret⟩ := hm
  refine lv_icmp_gt hx hb hd ht (fun h => ?_) (fun h => ?_)
  · have k2 : (iLe x y = false) := by simp only [iLe]; first | exact decide_eq_true h | exact decide_eq_false (fun z => absurd h (by first | exact z | exact Int32.not_le.mpr z | exact Int32.not_lt.mpr z | exact fun q => z q | exact fun q => absurd q z)) | simpa using h
    simp only [k2] at kk; simpa using kk
  · have k2 : (iLe x y = true) := by simp only [iLe]; first | exact decide_eq_false h | exact decide_eq_true (by first | exact h | exact Int32.not_le.mp h | exact Int32.not_lt.mp h | exact Classical.not_not.mp h) | simpa using h
    simp only [k2] at kk; simpa using kk
theorem j_le {pc tgt : Nat} {off : Int} (hd : decode (kC K) pc = .ok (.if_icmp .le off, 3)) (ht : (pc : Int) + off = (tgt : Int)) : Jm2 G K pc tgt (pc + 3) piI piI iLe := by
  intro w mt b vF MF hm x y st ls H locs cells slots kk
  obtain ⟨p, e, R, s, args, below, meth, c, Q, rfl, hx, hb, hml, hown, hK, hnm, hR1, hR2, hR3, hR4, hret⟩ := hm
  refine lv_icmp_le hx hb hd ht (fun h => ?_) (fun h => ?_)
  · have k2 : (iLe x y = true) := by simp only [iLe]; first | exact decide_eq_true h | exact decide_eq_false (fun z => absurd h (by first | exact z | exact Int32.not_le.mpr z | exact Int32.not_lt.mpr z | exact fun q => z q | exact fun q => absurd q z)) | simpa using h
    simp only [k2] at kk; simpa using kk
  · have k2 : (iLe x y = false) := by simp only [iLe]; first | exact decide_eq_false h | exact decide_eq_true (by first | exact h | exact Int32.not_le.mp h | exact Int32.not_lt.mp h | exact Classical.not_not.mp h) | simpa using h
    simp only [k2] at kk; simpa using kk
theorem n_le {pc tgt : Nat} {off : Int} (hd : decode (kC K) pc = .ok (.if_icmp .le off, 3)) (ht : (pc : Int) + off = (tgt : Int)) : Jm2 G K pc (pc + 3) tgt piI piI iGt := by
  intro w mt b vF MF hm x y st ls H locs cells slots kk
  obtain ⟨p, e, R, s, args, below, meth, c, Q, rfl, hx, hb, hml, hown, hK, hnm, hR1, hR2, hR3, hR4, hret⟩ := hm
  refine lv_icmp_le hx hb hd ht (fun h => ?_) (fun h => ?_)
  · have k2 : (iGt x y = false) := by simp only [iGt]; first | exact decide_eq_true h | exact decide_eq_false (fun z => absurd h (by first | exact z | exact Int32.not_le.mpr z | exact Int32.not_lt.mpr z | exact fun q => z q | exact fun q => absurd q z)) | simpa using h
    simp only [k2] at kk; simpa using kk
  · have k2 : (iGt x y = true) := by simp only [iGt]; first | exact decide_eq_false h | exact decide_eq_true (by first | exact h | exact Int32.not_le.mp h | exact Int32.not_lt.mp h | exact Classical.not_not.mp h) | simpa using h
    simp only [k2] at kk; simpa using kk
theorem jz_eq {pc tgt : Nat} {off : Int} (hd : decode (kC K) pc = .ok (.ifCond .eq off, 3)) (ht : (pc : Int) + off = (tgt : Int)) : Jm1 G K pc tgt (pc + 3) piI zEq := by
  intro w mt b vF MF hm x st ls H locs cells slots kk
  obtain ⟨p, e, R, s, args, below, meth, c, Q, rfl, hx, hb, hml, hown, hK, hnm, hR1, hR2, hR3, hR4, hret⟩ := hm
  refine lv_if_eq hx hb hd ht (fun h => ?_) (fun h => ?_)
  · have k2 : (zEq x = true) := by simp only [zEq]; first | exact decide_eq_true h | exact decide_eq_false (fun z => absurd h (by first | exact z | exact Int32.not_le.mpr z | exact Int32.not_lt.mpr z | exact fun q => z q | exact fun q => absurd q z)) | simpa using h
    simp only [k2] at kk; simpa using kk
  · have k2 : (zEq x = false) := by simp only [zEq]; first | exact decide_eq_false h | exact decide_eq_true (by first | exact h | exact Int32.not_le.mp h | exact Int32.not_lt.mp h | exact Classical.not_not.mp h) | simpa using h
    simp only [k2] at kk; simpa using kk
theorem nz_eq {pc tgt : Nat} {off : Int} (hd : decode (kC K) pc = .ok (.ifCond .eq off, 3)) (ht : (pc : Int) + off = (tgt : Int)) : Jm1 G K pc (pc + 3) tgt piI i2z := by
  intro w mt b vF MF hm x st ls H locs cells slots kk
  obtain ⟨p, e, R, s, args, below, meth, c, Q, rfl, hx, hb, hml, hown, hK, hnm, hR1, hR2, hR3, hR4, hret⟩ := hm
  refine lv_if_eq hx hb hd ht (fun h => ?_) (fun h => ?_)
  · have k2 : (i2z x = false) := by simp only [i2z]; first | exact decide_eq_true h | exact decide_eq_false (fun z => absurd h (by first | exact z | exact Int32.not_le.mpr z | exact Int32.not_lt.mpr z | exact fun q => z q | exact fun q => absurd q z)) | simpa using h
    simp only [k2] at kk; simpa using kk
  · have k2 : (i2z x = true) := by simp only [i2z]; first | exact decide_eq_false h | exact decide_eq_true (by first | exact h | exact Int32.not_le.mp h | exact Int32.not_lt.mp h | exact Classical.not_not.mp h) | simpa using h
    simp only [k2] at kk; simpa using kk
theorem jz_ne {pc tgt : Nat} {off : Int} (hd : decode (kC K) pc = .ok (.ifCond .ne off, 3)) (ht : (pc : Int) + off = (tgt : Int)) : Jm1 G K pc tgt (pc + 3) piI i2z := by
  intro w mt b vF MF hm x st ls H locs cells slots kk
  obtain ⟨p, e, R, s, args, below, meth, c, Q, rfl, hx, hb, hml, hown, hK, hnm, hR1, hR2, hR3, hR4, hret⟩ := hm
  refine lv_if_ne hx hb hd ht (fun h => ?_) (fun h => ?_)
  · have k2 : (i2z x = true) := by simp only [i2z]; first | exact decide_eq_true h | exact decide_eq_false (fun z => absurd h (by first | exact z | exact Int32.not_le.mpr z | exact Int32.not_lt.mpr z | exact fun q => z q | exact fun q => absurd q z)) | simpa using h
    simp only [k2] at kk; simpa using kk
  · have k2 : (i2z x = false) := by simp only [i2z]; first | exact decide_eq_false h | exact decide_eq_true (by first | exact h | exact Int32.not_le.mp h | exact Int32.not_lt.mp h | exact Classical.not_not.mp h) | simpa using h
    simp only [k2] at kk; simpa using kk
theorem nz_ne {pc tgt : Nat} {off : Int} (hd : decode (kC K) pc = .ok (.ifCond .ne off, 3)) (ht : (pc : Int) + off = (tgt : Int)) : Jm1 G K pc (pc + 3) tgt piI zEq := by
  intro w mt b vF MF hm x st ls H locs cells slots kk
  obtain ⟨p, e, R, s, args, below, meth, c, Q, rfl, hx, hb, hml, hown, hK, hnm, hR1, hR2, hR3, hR4, hret⟩ := hm
  refine lv_if_ne hx hb hd ht (fun h => ?_) (fun h => ?_)
  · have k2 : (zEq x = false) := by simp only [zEq]; first | exact decide_eq_true h | exact decide_eq_false (fun z => absurd h (by first | exact z | exact Int32.not_le.mpr z | exact Int32.not_lt.mpr z | exact fun q => z q | exact fun q => absurd q z)) | simpa using h
    simp only [k2] at kk; simpa using kk
  · have k2 : (zEq x = true) := by simp only [zEq]; first | exact decide_eq_false h | exact decide_eq_true (by first | exact h | exact Int32.not_le.mp h | exact Int32.not_lt.mp h | exact Classical.not_not.mp h) | simpa using h
    simp only [k2] at kk; simpa using kk
theorem jz_lt {pc tgt : Nat} {off : Int} (hd : decode (kC K) pc = .ok (.ifCond .lt off, 3)) (ht : (pc : Int) + off = (tgt : Int)) : Jm1 G K pc tgt (pc + 3) piI zLt := by
  intro w mt b vF MF hm x st ls H locs cells slots kk
  obtain ⟨p, e, R, s, args, below, meth, c, Q, rfl, hx, hb, hml, hown, hK, hnm, hR1, hR2, hR3, hR4, hret⟩ := hm
  refine lv_if_lt hx hb hd ht (fun h => ?_) (fun h => ?_)
  · have k2 : (zLt x = true) := by simp only [zLt]; first | exact decide_eq_true h | exact decide_eq_false (fun z => absurd h (by first | exact z | exact Int32.not_le.mpr z | exact Int32.not_lt.mpr z | exact fun q => z q | exact fun q => absurd q z)) | simpa using h
    simp only [k2] at kk; simpa using kk
  · have k2 : (zLt x = false) := by simp only [zLt]; first | exact decide_eq_false h | exact decide_eq_true (by first | exact h | exact Int32.not_le.mp h | exact Int32.not_lt.mp h | exact Classical.not_not.mp h) | simpa using h
    simp only [k2] at kk; simpa using kk
theorem nz_lt {pc tgt : Nat} {off : Int} (hd : decode (kC K) pc = .ok (.ifCond .lt off, 3)) (ht : (pc : Int) + off = (tgt : Int)) : Jm1 G K pc (pc + 3) tgt piI zGe := by
  intro w mt b vF MF hm x st ls H locs cells slots kk
  obtain ⟨p, e, R, s, args, below, meth, c, Q, rfl, hx, hb, hml, hown, hK, hnm, hR1, hR2, hR3, hR4, hret⟩ := hm
  refine lv_if_lt hx hb hd ht (fun h => ?_) (fun h => ?_)
  · have k2 : (zGe x = false) := by simp only [zGe]; first | exact decide_eq_true h | exact decide_eq_false (fun z => absurd h (by first | exact z | exact Int32.not_le.mpr z | exact Int32.not_lt.mpr z | exact fun q => z q | exact fun q => absurd q z)) | simpa using h
    simp only [k2] at kk; simpa using kk
  · have k2 : (zGe x = true) := by simp only [zGe]; first | exact decide_eq_false h | exact decide_eq_true (by first | exact h | exact Int32.not_le.mp h | exact Int32.not_lt.mp h | exact Classical.not_not.mp h) | simpa using h
    simp only [k2] at kk; simpa using kk
theorem jz_ge {pc tgt : Nat} {off : Int} (hd : decode (kC K) pc = .ok (.ifCond .ge off, 3)) (ht : (pc : Int) + off = (tgt : Int)) : Jm1 G K pc tgt (pc + 3) piI zGe := by
  intro w mt b vF MF hm x st ls H locs cells slots kk
  obtain ⟨p, e, R, s, args, below, meth, c, Q, rfl, hx, hb, hml, hown, hK, hnm, hR1, hR2, hR3, hR4, hret⟩ := hm
  refine lv_if_ge hx hb hd ht (fun h => ?_) (fun h => ?_)
  · have k2 : (zGe x = true) := by simp only [zGe]; first | exact decide_eq_true h | exact decide_eq_false (fun z => absurd h (by first | exact z | exact Int32.not_le.mpr z | exact Int32.not_lt.mpr z | exact fun q => z q | exact fun q => absurd q z)) | simpa using h
    simp only [k2] at kk; simpa using kk
  · have k2 : (zGe x = false) := by simp only [zGe]; first | exact decide_eq_false h | exact decide_eq_true (by first | exact h | exact Int32.not_le.mp h | exact Int32.not_lt.mp h | exact Classical.not_not.mp h) | simpa using h
    simp only [k2] at kk; simpa using kk
theorem nz_ge {pc tgt : Nat} {off : Int} (hd : decode (kC K) pc = .ok (.ifCond .ge off, 3)) (ht : (pc : Int) + off = (tgt : Int)) : Jm1 G K pc (pc + 3) tgt piI zLt := by
  intro w mt b vF MF hm x st ls H locs cells slots kk
  obtain ⟨p, e, R, s, args, below, meth, c, Q, rfl, hx, hb, hml, hown, hK, hnm, hR1, hR2, hR3, hR4, hret⟩ := hm
  refine lv_if_ge hx hb hd ht (fun h => ?_) (fun h => ?_)
  · have k2 : (zLt x = false) := by simp only [zLt]; first | exact decide_eq_true h | exact decide_eq_false (fun z => absurd h (by first | exact z | exact Int32.not_le.mpr z | exact Int32.not_lt.mpr z | exact fun q => z q | exact fun q => absurd q z)) | simpa using h
    simp only [k2] at kk; simpa using kk
  · have k2 : (zLt x = true) := by simp only [zLt]; first | exact decide_eq_false h | exact decide_eq_true (by first | exact h | exact Int32.not_le.mp h | exact Int32.not_lt.mp h | exact Classical.not_not.mp h) | simpa using h
    simp only [k2] at kk; simpa using kk
theorem jz_gt {pc tgt : Nat} {off : Int} (hd : decode (kC K) pc = .ok (.ifCond .gt off, 3)) (ht : (pc : Int) + off = (tgt : Int)) : Jm1 G K pc tgt (pc + 3) piI zGt := by
  intro w mt b vF MF hm x st ls H locs cells slots kk
  obtain ⟨p, e, R, s, args, below, meth, c, Q, rfl, hx, hb, hml, hown, hK, hnm, hR1, hR2, hR3, hR4, hret⟩ := hm
  refine lv_if_gt hx hb hd ht (fun h => ?_) (fun h => ?_)
  · have k2 : (zGt x = true) := by simp only [zGt]; first | exact decide_eq_true h | exact decide_eq_false (fun z => absurd h (by first | exact z | exact Int32.not_le.mpr z | exact Int32.not_lt.mpr z | exact fun q => z q | exact fun q => absurd q z)) | simpa using h
    simp only [k2] at kk; simpa using kk
  · have k2 : (zGt x = false) := by simp only [zGt]; first | exact decide_eq_false h | exact decide_eq_true (by first | exact h | exact Int32.not_le.mp h | exact Int32.not_lt.mp h | exact Classical.not_not.mp h) | simpa using h
    simp only [k2] at kk; simpa using kk
theorem nz_gt {pc tgt : Nat} {off : Int} (hd : decode (kC K) pc = .ok (.ifCond .gt off, 3)) (ht : (pc : Int) + off = (tgt : Int)) : Jm1 G K pc (pc + 3) tgt piI zLe := by
  intro w mt b vF MF hm x st ls H locs cells slots kk
  obtain ⟨p, e, R, s, args, below, meth, c, Q, rfl, hx, hb, hml, hown, hK, hnm, hR1, hR2, hR3, hR4, hret⟩ := hm
  refine lv_if_gt hx hb hd ht (fun h => ?_) (fun h => ?_)
  · have k2 : (zLe x = false) := by simp only [zLe]; first | exact decide_eq_true h | exact decide_eq_false (fun z => absurd h (by first | exact z | exact Int32.not_le.mpr z | exact Int32.not_lt.mpr z | exact fun q => z q | exact fun q => absurd q z)) | simpa using h
    simp only [k2] at kk; simpa using kk
  · have k2 : (zLe x = true) := by simp only [zLe]; first | exact decide_eq_false h | exact decide_eq_true (by first | exact h | exact Int32.not_le.mp h | exact Int32.not_lt.mp h | exact Classical.not_not.mp h) | simpa using h
    simp only [k2] at kk; simpa using kk
theorem jz_le {pc tgt : Nat} {off : Int} (hd : decode (kC K) pc = .ok (.ifCond .le off, 3)) (ht : (pc : Int) + off = (tgt : Int)) : Jm1 G K pc tgt (pc + 3) piI zLe := by
  intro w mt b vF MF hm x st ls H locs cells slots kk
  obtain ⟨p, e, R, s, args, below, meth, c, Q, rfl, hx, hb, hml, hown, hK, hnm, hR1, hR2, hR3, hR4, hret⟩ := hm
  refine lv_if_le hx hb hd ht (fun h => ?_) (fun h => ?_)
  · have k2 : (zLe x = true) := by simp only [zLe]; first | exact decide_eq_true h | exact decide_eq_false (fun z => absurd h (by first | exact z | exact Int32.not_le.mpr z | exact Int32.not_lt.mpr z | exact fun q => z q | exact fun q => absurd q z)) | simpa using h
    simp only [k2] at kk; simpa using kk
  · have k2 : (zLe x = false) := by simp only [zLe]; first | exact decide_eq_false h | exact decide_eq_true (by first | exact h | exact Int32.not_le.mp h | exact Int32.not_lt.mp h | exact Classical.not_not.mp h) | simpa using h
    simp only [k2] at kk; simpa using kk
theorem nz_le {pc tgt : Nat} {off : Int} (hd : decode (kC K) pc = .ok (.ifCond .le off, 3)) (ht : (pc : Int) + off = (tgt : Int)) : Jm1 G K pc (pc + 3) tgt piI zGt := by
  intro w mt b vF MF hm x st ls H locs cells slots kk
  obtain ⟨p, e, R, s, args, below, meth, c, Q, rfl, hx, hb, hml, hown, hK, hnm, hR1, hR2, hR3, hR4, hret⟩ := hm
  refine lv_if_le hx hb hd ht (fun h => ?_) (fun h => ?_)
  · have k2 : (zGt x = false) := by simp only [zGt]; first | exact decide_eq_true h | exact decide_eq_false (fun z => absurd h (by first | exact z | exact Int32.not_le.mpr z | exact Int32.not_lt.mpr z | exact fun q => z q | exact fun q => absurd q z)) | simpa using h
    simp only [k2] at kk; simpa using kk
  · have k2 : (zGt x = true) := by simp only [zGt]; first | exact decide_eq_false h | exact decide_eq_true (by first | exact h | exact Int32.not_le.mp h | exact Int32.not_lt.mp h | exact Classical.not_not.mp h) | simpa using h
    simp only [k2] at kk; simpa using kk
/-- longs: lcmp, then the jump on its sign -/
theorem x_lcmp {pc pt pf : Nat} {f : Int32 → Bool} {g : Int64 → Int64 → Bool} (hd : decode (kC K) pc = .ok (.lcmp, 1)) (hj : Jm1 G K (pc + 1) pt pf piI f) (hfg : ∀ x y, f (lg_cmp x y) = g x y) : Jm2 G K pc pt pf piL piL g := by
  intro w mt b vF MF hm x y st ls H locs cells slots kk
  have h1 := hj w mt b vF MF hm (lg_cmp x y) st ls H locs cells slots (by rw [hfg]; exact kk)
  obtain ⟨p, e, R, s, args, below, meth, c, Q, rfl, hx, hb, hml, hown, hK, hnm, hR1, hR2, hR3, hR4, hret⟩ := hm
  exact W.lcmp hx hb hd h1
theorem lc_Eq : ∀ x y, zEq (lg_cmp x y) = lEq x y := by
  intro x y; unfold zEq lEq; simp only [lg_cmp_eq]
theorem lc_Ne : ∀ x y, i2z (lg_cmp x y) = lNe x y := by
  intro x y; unfold i2z lNe; simp only [ne_eq, lg_cmp_eq]
theorem lc_Ge : ∀ x y, zGe (lg_cmp x y) = lGe x y := by
  intro x y; unfold zGe lGe; simp only [lg_cmp_ge]
theorem lc_Lt : ∀ x y, zLt (lg_cmp x y) = lLt x y := by
  intro x y; unfold zLt lLt; simp only [lg_cmp_lt]
theorem lc_Gt : ∀ x y, zGt (lg_cmp x y) = lGt x y := by
  intro x y; unfold zGt lGt; simp only [lg_cmp_gt]
theorem lc_Le : ∀ x y, zLe (lg_cmp x y) = lLe x y := by
  intro x y; unfold zLe lLe; simp only [lg_cmp_le]
theorem n_null {pc tgt : Nat} {off : Int} (hd : decode (kC K) pc = .ok (.ifnonnull off, 3)) (ht : (pc : Int) + off = (tgt : Int)) : Jm1 G K pc (pc + 3) tgt piN Option.isNone := by
  intro w mt b vF MF hm x st ls H locs cells slots kk
  obtain ⟨p, e, R, s, args, below, meth, c, Q, rfl, hx, hb, hml, hown, hK, hnm, hR1, hR2, hR3, hR4, hret⟩ := hm
  cases x with
  | none => exact lv_ifnonnullN hx hb hd kk
  | some y => exact lv_ifnonnull hx hb hd ht kk
theorem j_nonnull {pc tgt : Nat} {off : Int} (hd : decode (kC K) pc = .ok (.ifnonnull off, 3)) (ht : (pc : Int) + off = (tgt : Int)) : Jm1 G K pc tgt (pc + 3) piN Option.isSome := by
  intro w mt b vF MF hm x st ls H locs cells slots kk
  obtain ⟨p, e, R, s, args, below, meth, c, Q, rfl, hx, hb, hml, hown, hK, hnm, hR1, hR2, hR3, hR4, hret⟩ := hm
  cases x with
  | none => exact lv_ifnonnullN hx hb hd kk
  | some y => exact lv_ifnonnull hx hb hd ht kk
theorem j_null {pc tgt : Nat} {off : Int} (hd : decode (kC K) pc = .ok (.ifnull off, 3)) (ht : (pc : Int) + off = (tgt : Int)) : Jm1 G K pc tgt (pc + 3) piN Option.isNone := by
  intro w mt b vF MF hm x st ls H locs cells slots kk
  obtain ⟨p, e, R, s, args, below, meth, c, Q, rfl, hx, hb, hml, hown, hK, hnm, hR1, hR2, hR3, hR4, hret⟩ := hm
  cases x with
  | none => exact lv_ifnullN hx hb hd ht kk
  | some y => exact lv_ifnull hx hb hd kk
theorem n_nonnull {pc tgt : Nat} {off : Int} (hd : decode (kC K) pc = .ok (.ifnull off, 3)) (ht : (pc : Int) + off = (tgt : Int)) : Jm1 G K pc (pc + 3) tgt piN Option.isSome := by
  intro w mt b vF MF hm x st ls H locs cells slots kk
  obtain ⟨p, e, R, s, args, below, meth, c, Q, rfl, hx, hb, hml, hown, hK, hnm, hR1, hR2, hR3, hR4, hret⟩ := hm
  cases x with
  | none => exact lv_ifnullN hx hb hd ht kk
  | some y => exact lv_ifnull hx hb hd kk
theorem xAnd {d1 d2 pc p1 pt pf : Nat} {a c : Ev Bool} (ha : XC G K d1 pc p1 pf a) (hc : XC G K d2 p1 pt pf c) : XC G K (max d1 d2) pc pt pf (cAnd a c) := by
  refine ⟨fun env M x M' h => ?_, ?_⟩
  · obtain ⟨r, h1, h2⟩ := bnd h
    have a1 := ha.1 env M r.1 r.2 h1
    split at h2
    · have a2 := hc.1 env r.2 x M' h2
      exact ⟨by omega, by omega⟩
    · cases h2; exact a1
  · intro w mt b vF MF hm env M x M' hf hn hu st ls H locs cells slots hst hl ho kk
    obtain ⟨r, h1, h2⟩ := bnd hf
    split at h2
    · rename_i hr
      have a2 := hc.1 env r.2 x M' h2
      refine ha.2 w mt b vF MF hm env M r.1 r.2 h1 (by omega) (by omega) st ls H locs cells slots (by omega) hl ho (fun H' l' c' s' o' => ?_)
      rw [if_pos hr]
      exact hc.2 w mt b vF MF hm env r.2 x M' h2 hn hu st ls H' l' c' s' (by omega) hl o' kk
    · rename_i hr
      cases h2
      refine ha.2 w mt b vF MF hm env M r.1 r.2 h1 hn hu st ls H locs cells slots (by omega) hl ho (fun H' l' c' s' o' => ?_)
      rw [if_neg hr]
      exact kk H' l' c' s' o'
theorem xOr {d1 d2 pc p1 pt pf : Nat} {a c : Ev Bool} (ha : XC G K d1 pc pt p1 a) (hc : XC G K d2 p1 pt pf c) : XC G K (max d1 d2) pc pt pf (cOr a c) := by
  refine ⟨fun env M x M' h => ?_, ?_⟩
  · obtain ⟨r, h1, h2⟩ := bnd h
    have a1 := ha.1 env M r.1 r.2 h1
    split at h2
    · cases h2; exact a1
    · have a2 := hc.1 env r.2 x M' h2
      exact ⟨by omega, by omega⟩
  · intro w mt b vF MF hm env M x M' hf hn hu st ls H locs cells slots hst hl ho kk
    obtain ⟨r, h1, h2⟩ := bnd hf
    split at h2
    · rename_i hr
      cases h2
      refine ha.2 w mt b vF MF hm env M r.1 r.2 h1 hn hu st ls H locs cells slots (by omega) hl ho (fun H' l' c' s' o' => ?_)
      rw [if_pos hr]
      exact kk H' l' c' s' o'
    · rename_i hr
      have a2 := hc.1 env r.2 x M' h2
      refine ha.2 w mt b vF MF hm env M r.1 r.2 h1 (by omega) (by omega) st ls H locs cells slots (by omega) hl ho (fun H' l' c' s' o' => ?_)
      rw [if_neg hr]
      exact hc.2 w mt b vF MF hm env r.2 x M' h2 hn hu st ls H' l' c' s' (by omega) hl o' kk
theorem xNot {d pc pt pf : Nat} {a : Ev Bool} (ha : XC G K d pc pf pt a) : XC G K d pc pt pf (cNot a) := by
  refine ⟨fun env M x M' h => ?_, ?_⟩
  · obtain ⟨r, h1, h2⟩ := bnd h
    cases h2
    exact ha.1 env M r.1 r.2 h1
  · intro w mt b vF MF hm env M x M' hf hn hu st ls H locs cells slots hst hl ho kk
    obtain ⟨r, h1, h2⟩ := bnd hf
    cases h2
    refine ha.2 w mt b vF MF hm env M r.1 r.2 h1 hn hu st ls H locs cells slots hst hl ho (fun H' l' c' s' o' => ?_)
    have := kk H' l' c' s' o'
    cases h : r.1 <;> simp only [h] at this ⊢ <;> simpa using this
theorem go {pc tgt : Nat} {off : Int} (hd : decode (kC K) pc = .ok (.goto off, 3)) (ht : (pc : Int) + off = (tgt : Int)) : ∀ w mt b vF MF, Mx G K w mt b vF MF → ∀ (st : List Value) (ls : Array Slot) (H : Heap) (locs : List Loc) (cells slots : Nat), w H locs cells slots (F0 mt tgt ls st) → w H locs cells slots (F0 mt pc ls st) := by
  intro w mt b vF MF hm st ls H locs cells slots kk
  obtain ⟨p, e, R, s, args, below, meth, c, Q, rfl, hx, hb, hml, hown, hK, hnm, hR1, hR2, hR3, hR4, hret⟩ := hm
  exact lv_goto hx hb hd ht kk
theorem xGoT {d pc p1 pt pf : Nat} {off : Int} {a : Ev Bool} (ha : XC G K d pc p1 pf a) (hd : decode (kC K) p1 = .ok (.goto off, 3)) (ht : (p1 : Int) + off = (pt : Int)) : XC G K d pc pt pf a := by
  refine ⟨ha.1, ?_⟩
  intro w mt b vF MF hm env M x M' hf hn hu st ls H locs cells slots hst hl ho kk
  refine ha.2 w mt b vF MF hm env M x M' hf hn hu st ls H locs cells slots hst hl ho (fun H' l' c' s' o' => ?_)
  have := kk H' l' c' s' o'
  cases x
  · exact this
  · exact go hd ht w mt b vF MF hm st ls H' l' c' s' this
theorem xGoF {d pc p1 pt pf : Nat} {off : Int} {a : Ev Bool} (ha : XC G K d pc pt p1 a) (hd : decode (kC K) p1 = .ok (.goto off, 3)) (ht : (p1 : Int) + off = (pf : Int)) : XC G K d pc pt pf a := by
  refine ⟨ha.1, ?_⟩
  intro w mt b vF MF hm env M x M' hf hn hu st ls H locs cells slots hst hl ho kk
  refine ha.2 w mt b vF MF hm env M x M' hf hn hu st ls H locs cells slots hst hl ho (fun H' l' c' s' o' => ?_)
  have := kk H' l' c' s' o'
  cases x
  · exact go hd ht w mt b vF MF hm st ls H' l' c' s' this
  · exact this
theorem xTern {α : Type} {d d1 d2 pc pt pf p1 p2 : Nat} {off : Int} {π : α → List Value} {c : Ev Bool} {a a' : Ev α} (hc : XC G K d pc pt pf c) (ha : XP G K d1 pt p1 π a) (hd : decode (kC K) p1 = .ok (.goto off, 3)) (ht : (p1 : Int) + off = (p2 : Int)) (ha' : XP G K d2 pf p2 π a') : XP G K (max d (max d1 d2)) pc p2 π (tern c a a') := by
  refine ⟨fun env M x M' h => ?_, ?_⟩
  · obtain ⟨r, h1, h2⟩ := bnd h
    have a1 := hc.1 env M r.1 r.2 h1
    split at h2
    · have a2 := ha.1 env r.2 x M' h2
      exact ⟨by omega, by omega⟩
    · have a2 := ha'.1 env r.2 x M' h2
      exact ⟨by omega, by omega⟩
  · intro w mt b vF MF hm env M x M' hf hn hu st ls H locs cells slots hst hl ho kk
    obtain ⟨r, h1, h2⟩ := bnd hf
    split at h2
    · rename_i hr
      have a2 := ha.1 env r.2 x M' h2
      refine hc.2 w mt b vF MF hm env M r.1 r.2 h1 (by omega) (by omega) st ls H locs cells slots (by omega) hl ho (fun H' l' c' s' o' => ?_)
      rw [if_pos hr]
      exact ha.2 w mt b vF MF hm env r.2 x M' h2 hn hu st ls H' l' c' s' (by omega) hl o' (fun H'' l'' c'' s'' o'' => go hd ht w mt b vF MF hm _ ls H'' l'' c'' s'' (kk H'' l'' c'' s'' o''))
    · rename_i hr
      have a2 := ha'.1 env r.2 x M' h2
      refine hc.2 w mt b vF MF hm env M r.1 r.2 h1 (by omega) (by omega) st ls H locs cells slots (by omega) hl ho (fun H' l' c' s' o' => ?_)
      rw [if_neg hr]
      exact ha'.2 w mt b vF MF hm env r.2 x M' h2 hn hu st ls H' l' c' s' (by omega) hl o' kk
theorem xZ {d pc pt pf p2 : Nat} {off : Int} {c : Ev Bool} (hc : XC G K d pc pt pf c) (h1 : decode (kC K) pt = .ok (.iconst 1, 1)) (hd : decode (kC K) (pt + 1) = .ok (.goto off, 3)) (ht : ((pt + 1 : Nat) : Int) + off = (p2 : Int)) (h0 : decode (kC K) pf = .ok (.iconst 0, 1)) (he : pf + 1 = p2) : XP G K d pc p2 piI (eZ c) := by
  subst he
  have k1 : XP G K 0 pt (pt + 1) piI (eK (1 : Int32)) := x_iconst h1 rfl
  have k0 : XP G K 0 pf (pf + 1) piI (eK (0 : Int32)) := x_iconst h0 rfl
  have k := xTern hc k1 hd ht k0
  have e : eZ c = tern c (eK (1 : Int32)) (eK (0 : Int32)) := by
    funext env M
    unfold eZ b1 tern eK b2i
    cases c env M with
    | none => rfl
    | some r => cases h : r.1 <;> simp [h]
  rw [e]
  have hm : max d (max 0 0) = d := by simp
  rw [hm] at k
  exact k
/-- arguments: their weight, their number -/
def XA (G : qG) (K : qK) (d k n pc pc' : Nat) (f : Ev (List Value)) : Prop := XP G K d pc pc' (piV G) f ∧ ∀ env M l M', f env M = some (l, M') → wt (piV G l) ≤ k ∧ l.length = n
theorem xvN {pc : Nat} : XA G K 0 0 0 pc pc vN := by
  refine ⟨⟨fun env M x M' h => ?_, ?_⟩, fun env M l M' h => ?_⟩
  · cases h; exact ⟨Nat.le_refl _, Nat.le_refl _⟩
  · intro w mt b vF MF hm env M x M' hf hn hu st ls H locs cells slots hst hl ho kk
    cases hf
    exact kk H locs cells slots ho
  · cases h; exact ⟨Nat.le_refl _, rfl⟩
theorem xv {α : Type} {d1 d2 k k2 n pc p1 p2 : Nat} {π : α → List Value} {mk : α → Value} {a : Ev (List Value)} {c : Ev α} (ha : XA G K d1 k n pc p1 a) (hc : XP G K d2 p1 p2 π c) (hmk : ∀ x, π x = [cv G (mk x)]) (hk : ∀ x, wt (π x) ≤ k2) : XA G K (max d1 (d2 + k)) (k + k2) (n + 1) pc p2 (b2 (fun l x => l ++ [mk x]) a c) := by
  have hpi : ∀ l x, piV G (l ++ [mk x]) = π x ++ piV G l := fun l x => by simp [piV, hmk]
  refine ⟨⟨fun env M x M' h => ?_, ?_⟩, fun env M l M' h => ?_⟩
  · obtain ⟨r, h1, h2⟩ := bnd h
    obtain ⟨q, h3, h4⟩ := bnd h2
    cases h4
    have a1 := ha.1.1 env M r.1 r.2 h1
    have a2 := hc.1 env r.2 q.1 q.2 h3
    exact ⟨by omega, by omega⟩
  · intro w mt b vF MF hm env M x M' hf hn hu st ls H locs cells slots hst hl ho kk
    obtain ⟨r, h1, h2⟩ := bnd hf
    obtain ⟨q, h3, h4⟩ := bnd h2
    cases h4
    have a2 := hc.1 env r.2 q.1 q.2 h3
    have hw := (ha.2 env M r.1 r.2 h1).1
    refine ha.1.2 w mt b vF MF hm env M r.1 r.2 h1 (by omega) (by omega) st ls H locs cells slots (by omega) hl ho (fun H' l' c' s' o' => ?_)
    refine hc.2 w mt b vF MF hm env r.2 q.1 q.2 h3 (by omega) (by omega) (piV G r.1 ++ st) ls H' l' c' s' (by rw [wt_app]; omega) hl o' (fun H'' l'' c'' s'' o'' => ?_)
    have := kk H'' l'' c'' s'' o''
    rw [hpi, List.append_assoc] at this
    exact this
  · obtain ⟨r, h1, h2⟩ := bnd h
    obtain ⟨q, h3, h4⟩ := bnd h2
    cases h4
    have hw := ha.2 env M r.1 r.2 h1
    refine ⟨?_, by simp [hw.2]⟩
    rw [hpi, wt_app]
    have := hk q.1
    omega
theorem xvI {d1 d2 k n pc p1 p2 : Nat} {a : Ev (List Value)} {c : Ev Int32} (ha : XA G K d1 k n pc p1 a) (hc : XP G K d2 p1 p2 piI c) : XA G K (max d1 (d2 + k)) (k + 1) (n + 1) pc p2 (vI a c) := xv ha hc (fun _ => rfl) wI
theorem xvJ {d1 d2 k n pc p1 p2 : Nat} {a : Ev (List Value)} {c : Ev Int64} (ha : XA G K d1 k n pc p1 a) (hc : XP G K d2 p1 p2 piL c) : XA G K (max d1 (d2 + k)) (k + 2) (n + 1) pc p2 (vJ a c) := xv ha hc (fun _ => rfl) wL
theorem xvA {d1 d2 k n pc p1 p2 : Nat} {a : Ev (List Value)} {c : Ev Nat} (ha : XA G K d1 k n pc p1 a) (hc : XP G K d2 p1 p2 piA c) : XA G K (max d1 (d2 + k)) (k + 1) (n + 1) pc p2 (vA a c) := xv ha hc (fun _ => rfl) wA
def vS (a : Ev (List Value)) (e : Ev Nat) : Ev (List Value) := b2 (fun l x => l ++ [Value.retAddr x]) a e
theorem xvS {d1 d2 k n pc p1 p2 : Nat} {a : Ev (List Value)} {c : Ev Nat} (ha : XA G K d1 k n pc p1 a) (hc : XP G K d2 p1 p2 (piS G) c) : XA G K (max d1 (d2 + k)) (k + 1) (n + 1) pc p2 (vS a c) := xv ha hc (fun _ => rfl) (fun _ => Nat.le_refl _)
/-- calls -/
def cFs (F : Fn) (a : Ev (List Value)) : Ev (Option Value) := fun env M => (a env M).bind fun r => F r.1 r.2
/-- the receiver is of the class with this tag (50: a String constant) -/
def rcv (t : Nat) (l : List Value) (M : qM) : Bool := match l with
  | .ref b :: _ => decide ((tg M b).1 = t)
  | .retAddr i :: _ => decide (t = 50 ∧ i < 40)
  | _ => false
def cFv (t : Nat) (F : Fn) (a : Ev (List Value)) : Ev (Option Value) := fun env M => (a env M).bind fun r => if rcv t r.1 r.2 = true then F r.1 r.2 else none
def toI (f : Ev (Option Value)) : Ev Int32 := fun env M => match f env M with | some (some (.int x), M') => some (x, M') | _ => none
def toL (f : Ev (Option Value)) : Ev Int64 := fun env M => match f env M with | some (some (.long x), M') => some (x, M') | _ => none
def toV (f : Ev (Option Value)) : Ev Unit := fun env M => match f env M with | some (none, M') => some ((), M') | _ => none
theorem x_toI {d pc p1 : Nat} {f : Ev (Option Value)} (h : XP G K d pc p1 (piO G) f) : XP G K d pc p1 piI (toI f) := by
  have key : ∀ env M x M', toI f env M = some (x, M') → f env M = some (some (.int x), M') := by
    intro env M x M' hf
    unfold toI at hf
    split at hf
    · rename_i y m hy; cases hf; exact hy
    · cases hf
  refine ⟨fun env M x M' hf => h.1 env M _ M' (key env M x M' hf), ?_⟩
  intro w mt b vF MF hm env M x M' hf hn hu st ls H locs cells slots hst hl ho kk
  exact h.2 w mt b vF MF hm env M _ M' (key env M x M' hf) hn hu st ls H locs cells slots hst hl ho kk
theorem x_toL {d pc p1 : Nat} {f : Ev (Option Value)} (h : XP G K d pc p1 (piO G) f) : XP G K d pc p1 piL (toL f) := by
  have key : ∀ env M x M', toL f env M = some (x, M') → f env M = some (some (.long x), M') := by
    intro env M x M' hf
    unfold toL at hf
    split at hf
    · rename_i y m hy; cases hf; exact hy
    · cases hf
  refine ⟨fun env M x M' hf => h.1 env M _ M' (key env M x M' hf), ?_⟩
  intro w mt b vF MF hm env M x M' hf hn hu st ls H locs cells slots hst hl ho kk
  exact h.2 w mt b vF MF hm env M _ M' (key env M x M' hf) hn hu st ls H locs cells slots hst hl ho kk
theorem x_toV {d pc p1 : Nat} {f : Ev (Option Value)} (h : XP G K d pc p1 (piO G) f) : XP G K d pc p1 piU (toV f) := by
  have key : ∀ env M x M', toV f env M = some (x, M') → f env M = some (none, M') := by
    intro env M x M' hf
    unfold toV at hf
    split at hf
    · rename_i m hy; cases hf; exact hy
    · cases hf
  refine ⟨fun env M x M' hf => h.1 env M _ M' (key env M x M' hf), ?_⟩
  intro w mt b vF MF hm env M x M' hf hn hu st ls H locs cells slots hst hl ho kk
  exact h.2 w mt b vF MF hm env M _ M' (key env M x M' hf) hn hu st ls H locs cells slots hst hl ho kk
/-- what links a call -/
def lkM (own : String) (idx : Nat) (y : MethodName) : Prop := Cond.methodLink own idx y ∈ TBL ∨ ∃ host, Cond.methodLinkNest own idx y host ∈ NST
def lkC (K' : qK) (n : Nat) : Prop := Cond.initialized (kY K').cls ∈ TBL ∧ Cond.code (kY K') (kC K') (kL K') (kT K') ∈ TBL ∧ (kY K').cls ≠ "java/lang/invoke/MethodHandle" ∧ (kY K').cls ≠ "java/lang/invoke/VarHandle" ∧ (parseMethodDescriptor (kY K').desc).map (fun d => d.parameters.length) = some n
theorem FB {args : List Value} {M : qM} : FrameBlind (PC G args M) := fun a U g mk h => ⟨h.1, Kn.moved (s := U) (U := U.calling g mk a) (State.WarmedH.refl U) h.2.1, h.2.2⟩
theorem runW {p : Program} {e : Env} {R : Room} {s : State} {mt : MethodId} {args : Array Value} {below : List Frame} {meth : Method} {c : Code} {Q : State → Prop} {H : Heap} {locs : List Loc} {cells slots mc ms : Nat} {pc : Nat} {ls : Array Slot} {st0 rest : List Value} {v : Option Value} {M' : qM} {av : Array Value} (hr : va_Run p (gl G) e R s mt args below meth c H locs cells slots mc ms (F0 mt pc ls st0) rest (QC G v M' av) (fun q => gB G ≤ q)) (hlo : ∀ q ∈ locs, gB G ≤ q.base)
    (kk : ∀ H' locs', rp G M' H' → (∀ q ∈ locs', gB G ≤ q.base) → W p (gl G) e R s mt args below meth c H' locs' (cells + mc) (slots + ms) Q (F0 mt (pc + 3) ls (v.toList ++ rest))) : W p (gl G) e R s mt args below meth c H locs cells slots Q (F0 mt pc ls st0) := by
  intro T hT X
  obtain ⟨v', st₀, t, T', L, h0, X', hL, e1, e2, ⟨hv, hq⟩, stp⟩ := hr T hT X
  cases hv
  obtain ⟨t2, a1, b1⟩ := kk T'.heap (locs ++ L) (by rw [e1]; exact hq) (fun q hq' => by
    rcases List.mem_append.mp hq' with h | h
    · exact hlo q h
    · exact hL q h) T' rfl X'
  exact ⟨t2, stp t2 a1, b1⟩
/-- a call's bookkeeping, by either link -/
theorem callPre {K' : qK} {F : Fn} {vs : List Value} {M M' : qM} {v : Option Value} (hK' : CK G K' F) (hF : F vs M = some (v, M')) {R : Room} {s : State} {args : Array Value} {n : Nat} (hK : Kn G s) (hc : lkC K' n) (hfr : kF K' + 1 ≤ R.frames) (hlo : 8 + (kL K' + 11) + kO K' ≤ R.locals) :
    Met (gl G) (kY K') (wsK K') (rmK K' M M') (PC G vs M) (QC G v M') (mN M' - mN M) (mU M' - mU M) (fun q => gB G ≤ q) ∧ (rmK K' M M').cells = mN M' - mN M ∧ (rmK K' M M').slots = mU M' - mU M ∧ (rmK K' M M').frames + 1 ≤ R.frames ∧ 8 + (kL K' + 11) + (rmK K' M M').locals ≤ R.locals ∧ (∀ w ∈ wsK K', ∀ (a' : Array Value) (U : State), s.WarmedH U.vm → w.before a' U = true) ∧ Cond.code (kY K') (kC K') (kL K') (kT K') ∈ wsK K' ∧ (Cond.code (kY K') (kC K') (kL K') (kT K')).before args s = true ∧ (Cond.initialized (kY K').cls).before args s = true ∧ ((kY K').cls ≠ "java/lang/invoke/MethodHandle" ∧ (kY K').cls ≠ "java/lang/invoke/VarHandle") ∧ (∀ sig, parseMethodDescriptor (kY K').desc = some sig → n = sig.parameters.length) := by
  obtain ⟨c1, c2, c3, c4, c5⟩ := hc
  refine ⟨(hK' vs M v M' hF).2.2, rfl, rfl, hfr, hlo, fun w hw a' U hW => ?_, List.mem_cons_self, hK.word c2 args, hK.word c1 args, ⟨c3, c4⟩, fun sig h => ?_⟩
  · have hw' : w ∈ TBL := by
      rcases List.mem_cons.mp hw with h | h
      · rw [h]; exact c2
      · exact h
    exact (hK.moved hW).word hw' a'
  · rw [h] at c5; exact (Option.some.inj c5).symm
/-- the receiver's class -/
theorem rcvC {t : Nat} {vs : List Value} {M : qM} {H : Heap} {s : State} {C : String} (hK : Kn G s) (hr : rp G M H) (h : rcv t vs M = true) (hC : (∃ q, 0 < t ∧ cT[t - 1]? = some q ∧ q.1.1 = C) ∨ (t = 50 ∧ C = "java/lang/String")) : ∃ (b : Nat) (As : List Value), vs.map (cv G) = .ref b :: As ∧ As.length + 1 = vs.length ∧ ∃ cellB : Cell, H[b]? = some cellB ∧ cellB.vm.isStatics = false ∧ s.vm.findClass C = some cellB.cls := by
  match vs, h with
  | .ref b :: As, h =>
    have h : (tg M b).1 = t := of_decide_eq_true h
    rcases hC with ⟨q, h0, hq, hC⟩ | ⟨h50, -⟩
    · obtain ⟨cell, q1, q2, q3, -⟩ := hr.obj (a := b) (t := t - 1) (by omega) hq
      refine ⟨b, As.map (cv G), rfl, by simp, cell, q1, by rw [q3]; rfl, ?_⟩
      rw [q2, ← hC]
      exact (hK.2.2.1 (t - 1) q hq).2.1
    · exfalso
      have hc := (hr.2.2.2 b (by omega)).2.2
      unfold cOK at hc
      rw [h, if_neg (by omega)] at hc
      have := hc.1
      omega
  | .retAddr i :: As, h =>
    have h : t = 50 ∧ i < 40 := of_decide_eq_true h
    rcases hC with ⟨q, h0, hq, hC⟩ | ⟨h50, hC⟩
    · exfalso
      have := (cT_ok _ _ hq).2.2.2
      omega
    · have hi : ∃ q, sT[i]? = some q := ⟨_, List.getElem?_eq_getElem (by show i < sT.length; exact h.2)⟩
      obtain ⟨q, hq⟩ := hi
      obtain ⟨cell, z1, z2, z3, z4⟩ := (hK.2.2.2.2.2.1 i q hq).2.1
      refine ⟨gK G i, As.map (cv G), rfl, by simp, cell, ?_, z2, by rw [hC]; exact z3⟩
      rw [hr.2.2.1 _ (Array.getElem?_eq_some_iff.mp z1).1]
      exact z1
theorem x_callV {d k n pc p1 idx t : Nat} {a : Ev (List Value)} {F : Fn} {K' : qK} (hK' : CK G K' F) (ha : XA G K d k (n + 1) pc p1 a) (hd : decode (kC K) p1 = .ok (.invokevirtual idx, 3)) (hl1 : lkM (kY K).cls idx (kY K')) (hc : lkC K' n) (hi : Cond.instanceMethod (kY K') ∈ TBL) (hs : Cond.selects (kY K').cls (kY K') (kY K') ∈ TBL) (hC : (∃ q, 0 < t ∧ cT[t - 1]? = some q ∧ q.1.1 = (kY K').cls) ∨ (t = 50 ∧ (kY K').cls = "java/lang/String")) (hfr : kF K' + 1 ≤ kF K) (hlo : 8 + (kL K' + 11) + kO K' ≤ kO K) : XP G K d pc (p1 + 3) (piO G) (cFv t F a) := by
  refine ⟨fun env M x M' h => ?_, ?_⟩
  · obtain ⟨r, h1, h2⟩ := bnd h
    split at h2
    · have a1 := ha.1.1 env M r.1 r.2 h1
      have a2 := hK' _ _ _ _ h2
      exact ⟨by omega, by omega⟩
    · cases h2
  · intro w mt b vF MF hm env M x M' hf hn hu st ls H locs cells slots hst hl ho kk
    obtain ⟨r, h1, h2⟩ := bnd hf
    split at h2
    · rename_i hrc
      have a2 := hK' _ _ _ _ h2
      refine ha.1.2 w mt b vF MF hm env M r.1 r.2 h1 (by omega) (by omega) st ls H locs cells slots hst hl ho (fun H' l' c' s' o' => ?_)
      have hlen := (ha.2 env M r.1 r.2 h1).2
      obtain ⟨p, e, R, s, args, below, meth, c, Q, rfl, hx, hb, hml, hown, hK, hnm, hR1, hR2, hR3, hR4, hret⟩ := hm
      obtain ⟨bb, As, g1, g2, g3⟩ := rcvC hK o'.1 hrc hC
      obtain ⟨m0, m1, m2, m3, m4, m5, m6, m7, m8, m9, m10⟩ := callPre (args := args) (R := R) hK' h2 hK hc (by rw [hR1]; exact hfr) (by rw [hR2]; exact hlo)
      have hts : ∀ w ∈ TBL, w.before args s = true := fun w h => hK.word h args
      have hst8 : wt st ≤ 8 := by omega
      have hpv : PreV s H' (kY K').cls bb (PC G r.1 r.2) As := ⟨FB, g3, fun U hU hW => ⟨by rw [g1], hK.moved hW, by rw [hU]; exact o'.1⟩⟩
      have hstk : (F0 mt p1 ls (piV G r.1 ++ st)).stack = As.reverse ++ .ref bb :: st := by show (r.1.map (cv G)).reverse ++ st = _; rw [g1]; simp
      have hrm : c' + (mN M' - mN r.2) ≤ R.cells ∧ s' + (mU M' - mU r.2) ≤ R.slots := by
        have := o'.2.2.1; have := o'.2.2.2
        exact ⟨by omega, by omega⟩
      have hend : ∀ H1 l1, rp G M' H1 → (∀ q ∈ l1, gB G ≤ q.base) → W p (gl G) e R s mt args below meth c H1 l1 (c' + (mN M' - mN r.2)) (s' + (mU M' - mU r.2)) Q (F0 mt (p1 + 3) ls (x.toList ++ st)) := by
        intro H1 l1 q1 q2
        refine kk H1 l1 _ _ ⟨q1, q2, ?_, ?_⟩
        · have := o'.2.2.1; omega
        · have := o'.2.2.2; omega
      have hn' : As.length = n := by omega
      have hsz : (F0 mt p1 ls (piV G r.1 ++ st)).locals.size = kL K := hl.1
      rcases hl1 with hlk | ⟨host, hlk⟩
      · exact runW (va_runV (n := n) (C := (kY K').cls) ⟨hx, hb, hml, hown, hts⟩ m0 ⟨⟨m1, m2, m3, m4, m5, m6, m7, m8, m9, m10, hts _ hlk⟩, hts _ hi, hts _ hs⟩ hpv rfl hn' hsz hstk (lv_room hst8) hd hrm) o'.2.1 hend
      · exact runW (va_runVN (n := n) (C := (kY K').cls) ⟨hx, hb, hml, hown, hts⟩ m0 ⟨⟨⟨m1, m2, m3, m4, m5, m6⟩, m7, m8, m9, m10, va_Nw.use rfl (hK.2.1 _ hlk)⟩, hts _ hi, hts _ hs⟩ hpv rfl hn' hsz hstk (lv_room hst8) hd hrm) o'.2.1 hend
    · cases h2
theorem x_callS {d k n pc p1 idx : Nat} {a : Ev (List Value)} {F : Fn} {K' : qK} (hK' : CK G K' F) (ha : XA G K d k n pc p1 a) (hd : decode (kC K) p1 = .ok (.invokestatic idx, 3)) (hl1 : lkM (kY K).cls idx (kY K')) (hc : lkC K' n) (hs : Cond.static (kY K') ∈ TBL) (hfr : kF K' + 1 ≤ kF K) (hlo : 8 + (kL K' + 11) + kO K' ≤ kO K) : XP G K d pc (p1 + 3) (piO G) (cFs F a) := by
  refine ⟨fun env M x M' h => ?_, ?_⟩
  · obtain ⟨r, h1, h2⟩ := bnd h
    have a1 := ha.1.1 env M r.1 r.2 h1
    have a2 := hK' _ _ _ _ h2
    exact ⟨by omega, by omega⟩
  · intro w mt b vF MF hm env M x M' hf hn hu st ls H locs cells slots hst hl ho kk
    obtain ⟨r, h1, h2⟩ := bnd hf
    have a2 := hK' _ _ _ _ h2
    refine ha.1.2 w mt b vF MF hm env M r.1 r.2 h1 (by omega) (by omega) st ls H locs cells slots hst hl ho (fun H' l' c' s' o' => ?_)
    have hlen := (ha.2 env M r.1 r.2 h1).2
    obtain ⟨p, e, R, s, args, below, meth, c, Q, rfl, hx, hb, hml, hown, hK, hnm, hR1, hR2, hR3, hR4, hret⟩ := hm
    obtain ⟨m0, m1, m2, m3, m4, m5, m6, m7, m8, m9, m10⟩ := callPre (args := args) (R := R) hK' h2 hK hc (by rw [hR1]; exact hfr) (by rw [hR2]; exact hlo)
    have hts : ∀ w ∈ TBL, w.before args s = true := fun w h => hK.word h args
    have hst8 : wt st ≤ 8 := by omega
    have hpv : PreS s H' (PC G r.1 r.2) (r.1.map (cv G)) := ⟨FB, fun U hU hW => ⟨rfl, hK.moved hW, by rw [hU]; exact o'.1⟩⟩
    have hstk : (F0 mt p1 ls (piV G r.1 ++ st)).stack = (r.1.map (cv G)).reverse ++ st := rfl
    have hrm : c' + (mN M' - mN r.2) ≤ R.cells ∧ s' + (mU M' - mU r.2) ≤ R.slots := by
      have := o'.2.2.1; have := o'.2.2.2
      exact ⟨by omega, by omega⟩
    have hend : ∀ H1 l1, rp G M' H1 → (∀ q ∈ l1, gB G ≤ q.base) → W p (gl G) e R s mt args below meth c H1 l1 (c' + (mN M' - mN r.2)) (s' + (mU M' - mU r.2)) Q (F0 mt (p1 + 3) ls (x.toList ++ st)) := by
      intro H1 l1 q1 q2
      refine kk H1 l1 _ _ ⟨q1, q2, ?_, ?_⟩
      · have := o'.2.2.1; omega
      · have := o'.2.2.2; omega
    have hn' : (r.1.map (cv G)).length = n := by rw [List.length_map]; exact hlen
    have hsz : (F0 mt p1 ls (piV G r.1 ++ st)).locals.size = kL K := hl.1
    rcases hl1 with hlk | ⟨host, hlk⟩
    · exact runW (va_runS (n := n) ⟨hx, hb, hml, hown, hts⟩ m0 ⟨⟨m1, m2, m3, m4, m5, m6, m7, m8, m9, m10, hts _ hlk⟩, hts _ hs⟩ hpv rfl hn' hsz hstk (lv_room hst8) hd hrm) o'.2.1 hend
    · exact runW (va_runSN (n := n) ⟨hx, hb, hml, hown, hts⟩ m0 ⟨⟨⟨m1, m2, m3, m4, m5, m6⟩, m7, m8, m9, m10, va_Nw.use rfl (hK.2.1 _ hlk)⟩, hts _ hs, trivial⟩ hpv rfl hn' hsz hstk (lv_room hst8) hd hrm) o'.2.1 hend
end RC
