/-! THE TEXT: bytes, runs, tokens, words -/
def ltB (x : Int32) : Bool := iGe x (n32 97) && iLe x (n32 122)
def dgB (x : Int32) : Bool := iGe x (n32 48) && iLe x (n32 57)
def bv (k : Fin 256) : Int32 := (Int8.ofBitVec (BitVec.ofFin k)).toInt32
def isBy (x : Int32) : Prop := ∃ k, x = bv k
theorem isBy_nar (y : Int32) : isBy (nar 22 y) := ⟨y.toInt8.toBitVec.toFin, rfl⟩
theorem by_l : ∀ k, ltB (bv k &&& n32 255) = ltB (bv k) := by decide +kernel
theorem by_d : ∀ k, dgB (bv k &&& n32 255) = dgB (bv k) := by decide +kernel
theorem by_32 : ∀ k, iEq (bv k &&& n32 255) (n32 32) = iEq (bv k) (n32 32) := by decide +kernel
theorem by_59 : ∀ k, iEq (bv k &&& n32 255) (n32 59) = iEq (bv k) (n32 59) := by decide +kernel
theorem by_44 : ∀ k, iEq (bv k &&& n32 255) (n32 44) = iEq (bv k) (n32 44) := by decide +kernel
theorem by_n : ∀ k, iEq (bv k &&& n32 255) (-1) = false := by decide +kernel
theorem by_ge : ∀ k, (ltB (bv k) || dgB (bv k)) = true → bv k &&& n32 255 = bv k := by decide +kernel
theorem rngI {x : Int32} {a b : Nat} (ha : a < 2147483648) (hb : b < 2147483648) (h : (iGe x (n32 a) && iLe x (n32 b)) = true) : ∃ k, a ≤ k ∧ k ≤ b ∧ x = n32 k := by
  simp only [Bool.and_eq_true, iGe, iLe, decide_eq_true_eq] at h
  have h0 : 0 ≤ x := Int32.le_trans (by rw [l_0, n32_le (by decide) ha]; omega) h.1
  have e := n32_of h0
  have hc := clamp_lt x
  refine ⟨x.toNatClampNeg, ?_, ?_, e⟩
  · have := h.1
    rw [e, n32_le ha hc] at this
    exact this
  · have := h.2
    rw [e, n32_le hc hb] at this
    exact this
def lcd (x : Int32) : Nat := x.toNatClampNeg - 96
def dcd (x : Int32) : Nat := x.toNatClampNeg - 48
theorem lt_cd {x : Int32} (h : ltB x = true) : 1 ≤ lcd x ∧ lcd x ≤ 26 ∧ x = n32 (96 + lcd x) := by
  obtain ⟨k, h1, h2, rfl⟩ := rngI (by decide) (by decide) h
  unfold lcd
  rw [n32_clamp (by omega)]
  exact ⟨by omega, by omega, by congr 1; omega⟩
theorem dg_cd {x : Int32} (h : dgB x = true) : dcd x ≤ 9 ∧ x = n32 (48 + dcd x) := by
  obtain ⟨k, h1, h2, rfl⟩ := rngI (by decide) (by decide) h
  unfold dcd
  rw [n32_clamp (by omega)]
  exact ⟨by omega, by congr 1; omega⟩
theorem lt_long : ∀ c : Fin 27, (n32 (96 + c) - n32 97 + n32 1).toInt64 = Int64.ofNat c := by decide +kernel
/-- from q on, up to n, as long as f -/
def isRun (f : Nat → Bool) (n q e : Nat) : Prop := q ≤ e ∧ e ≤ n ∧ (∀ i, q ≤ i → i < e → f i = true) ∧ (e < n → f e = false)
theorem run_uniq {f : Nat → Bool} {n q e e' : Nat} (h : isRun f n q e) (g : isRun f n q e') : e = e' := by
  obtain ⟨h1, h2, h3, h4⟩ := h
  obtain ⟨g1, g2, g3, g4⟩ := g
  rcases Nat.lt_trichotomy e e' with z | z | z
  · have := g3 e h1 z
    rw [h4 (by omega)] at this; cases this
  · exact z
  · have := h3 e' g1 z
    rw [g4 (by omega)] at this; cases this
def runE (f : Nat → Bool) : Nat → Nat → Nat
  | 0, q => q
  | k + 1, q => if f q = true then runE f k (q + 1) else q
def runN (f : Nat → Bool) (n q : Nat) : Nat := runE f (n - q) q
theorem runE_is (f : Nat → Bool) (n : Nat) : ∀ (k q : Nat), k + q = n → isRun f n q (runE f k q)
  | 0, q, h => ⟨Nat.le_refl _, by show q ≤ n; omega, fun i h1 h2 => by have : i < q := h2; omega, fun z => by have : q < n := z; omega⟩
  | k + 1, q, h => by
    unfold runE
    by_cases e : f q = true
    · rw [if_pos e]
      obtain ⟨h1, h2, h3, h4⟩ := runE_is f n k (q + 1) (by omega)
      refine ⟨by omega, h2, fun i a b => ?_, h4⟩
      by_cases ei : i = q
      · rw [ei]; exact e
      · exact h3 i (by omega) b
    · rw [if_neg e]
      exact ⟨Nat.le_refl _, by omega, fun i a b => by omega, fun _ => by simpa using e⟩
theorem run_is {f : Nat → Bool} {n q : Nat} (h : q ≤ n) : isRun f n q (runN f n q) := runE_is f n (n - q) q (by omega)
theorem run_eq {f : Nat → Bool} {n q e : Nat} (h : isRun f n q e) : runN f n q = e := run_uniq (run_is (Nat.le_trans h.1 h.2.1)) h
/-- the token that is met from q on: its place, its sort (0 the end, 1 a word, 2 a whole, 3 ;, 4 a comma, 5 none), its end, its letters, its number -/
def tkP (tp : Nat → Int32) (n q : Nat) : Nat := runN (fun i => iEq (tp i) (n32 32)) n q
def tkL (tp : Nat → Int32) (n q : Nat) : Nat := runN (fun i => ltB (tp i)) n (tkP tp n q)
def tkD (tp : Nat → Int32) (n q : Nat) : Nat := runN (fun i => dgB (tp i)) n (tkP tp n q)
def tkK (tp : Nat → Int32) (n q : Nat) : Nat := if n ≤ tkP tp n q then 0 else if ltB (tp (tkP tp n q)) = true then (if tkL tp n q - tkP tp n q ≤ 8 then 1 else 5) else if dgB (tp (tkP tp n q)) = true then (if tkD tp n q - tkP tp n q ≤ 3 then 2 else 5) else if iEq (tp (tkP tp n q)) (n32 59) = true then 3 else if iEq (tp (tkP tp n q)) (n32 44) = true then 4 else 5
def tkE (tp : Nat → Int32) (n q : Nat) : Nat := if n ≤ tkP tp n q then n else if ltB (tp (tkP tp n q)) = true then tkL tp n q else if dgB (tp (tkP tp n q)) = true then tkD tp n q else tkP tp n q + 1
theorem tkP_is {tp : Nat → Int32} {n q : Nat} (h : q ≤ n) : isRun (fun i => iEq (tp i) (n32 32)) n q (tkP tp n q) := run_is h
theorem tkL_is {tp : Nat → Int32} {n q : Nat} (h : q ≤ n) : isRun (fun i => ltB (tp i)) n (tkP tp n q) (tkL tp n q) := run_is (tkP_is h).2.1
theorem tkD_is {tp : Nat → Int32} {n q : Nat} (h : q ≤ n) : isRun (fun i => dgB (tp i)) n (tkP tp n q) (tkD tp n q) := run_is (tkP_is h).2.1
theorem tkE_le {tp : Nat → Int32} {n q : Nat} (h : q ≤ n) : q ≤ tkE tp n q ∧ tkE tp n q ≤ n := by
  obtain ⟨p1, p2, -, -⟩ := tkP_is (tp := tp) h
  obtain ⟨l1, l2, -, -⟩ := tkL_is (tp := tp) h
  obtain ⟨d1, d2, -, -⟩ := tkD_is (tp := tp) h
  unfold tkE
  split
  · omega
  · split
    · omega
    · split <;> omega
theorem tkE_gt {tp : Nat → Int32} {n q : Nat} (h : q ≤ n) (k : tkK tp n q = 3) : q < tkE tp n q := by
  obtain ⟨p1, p2, -, -⟩ := tkP_is (tp := tp) h
  unfold tkK at k
  unfold tkE
  by_cases a : n ≤ tkP tp n q
  · rw [if_pos a] at k; cases k
  · rw [if_neg a] at k ⊢
    by_cases b : ltB (tp (tkP tp n q)) = true
    · rw [if_pos b] at k
      split at k <;> cases k
    · rw [if_neg b] at k ⊢
      by_cases c : dgB (tp (tkP tp n q)) = true
      · rw [if_pos c] at k
        split at k <;> cases k
      · rw [if_neg c]
        omega
def lcs (tp : Nat → Int32) (a m : Nat) : List Nat := (List.range m).map fun i => lcd (tp (a + i))
theorem lcs_s (tp : Nat → Int32) (a m : Nat) : lcs tp a (m + 1) = lcs tp a m ++ [lcd (tp (a + m))] := by
  unfold lcs
  rw [List.range_succ, List.map_append]
  rfl
theorem lcs_len (tp : Nat → Int32) (a m : Nat) : (lcs tp a m).length = m := by simp [lcs]
theorem lcs_ext {tp tp' : Nat → Int32} {a m : Nat} (h : ∀ i, i < m → tp (a + i) = tp' (a + i)) : lcs tp a m = lcs tp' a m := by
  unfold lcs
  refine List.map_congr_left fun i hi => ?_
  rw [h i (by simpa using hi)]
def dgv (tp : Nat → Int32) (a : Nat) : Nat → Nat
  | 0 => 0
  | m + 1 => dgv tp a m * 10 + dcd (tp (a + m))
def tkW (tp : Nat → Int32) (n q : Nat) : List Nat := lcs tp (tkP tp n q) (tkE tp n q - tkP tp n q)
def tkV (tp : Nat → Int32) (n q : Nat) : Nat := dgv tp (tkP tp n q) (tkE tp n q - tkP tp n q)
theorem dgv_lt {tp : Nat → Int32} {a : Nat} : ∀ m, (∀ i, i < m → dgB (tp (a + i)) = true) → dgv tp a m < 10 ^ m
  | 0, _ => by show 0 < 10 ^ 0; decide
  | m + 1, h => by
    have h1 := dgv_lt m (fun i hi => h i (by omega))
    have h2 := (dg_cd (h m (by omega))).1
    show dgv tp a m * 10 + dcd (tp (a + m)) < 10 ^ (m + 1)
    rw [Nat.pow_succ]
    omega
theorem tkV_lt {tp : Nat → Int32} {n q : Nat} (h : q ≤ n) (k : tkK tp n q = 2) : tkV tp n q < 1000 := by
  obtain ⟨d1, d2, d3, -⟩ := tkD_is (tp := tp) h
  have kk := k
  unfold tkK at k
  by_cases a : n ≤ tkP tp n q
  · rw [if_pos a] at k; cases k
  · rw [if_neg a] at k
    by_cases b : ltB (tp (tkP tp n q)) = true
    · rw [if_pos b] at k
      split at k <;> cases k
    · rw [if_neg b] at k
      by_cases c : dgB (tp (tkP tp n q)) = true
      · rw [if_pos c] at k
        by_cases d : tkD tp n q - tkP tp n q ≤ 3
        · unfold tkV tkE
          rw [if_neg a, if_neg b, if_pos c]
          have := dgv_lt (tp := tp) (a := tkP tp n q) (tkD tp n q - tkP tp n q) (fun i hi => d3 _ (by omega) (by omega))
          have : 10 ^ (tkD tp n q - tkP tp n q) ≤ 10 ^ 3 := Nat.pow_le_pow_right (by decide) d
          omega
        · rw [if_neg d] at k; cases k
      · rw [if_neg c] at k
        split at k
        · cases k
        · split at k <;> cases k
/-- a word's letters -/
def wOK (l : List Nat) : Prop := l.length ≤ 8 ∧ ∀ x, x ∈ l → 1 ≤ x ∧ x ≤ 26
theorem tkW_ok {tp : Nat → Int32} {n q : Nat} (h : q ≤ n) (k : tkK tp n q = 1) : wOK (tkW tp n q) := by
  obtain ⟨d1, d2, d3, -⟩ := tkL_is (tp := tp) h
  unfold tkK at k
  by_cases a : n ≤ tkP tp n q
  · rw [if_pos a] at k; cases k
  · rw [if_neg a] at k
    by_cases b : ltB (tp (tkP tp n q)) = true
    · rw [if_pos b] at k
      by_cases d : tkL tp n q - tkP tp n q ≤ 8
      · unfold tkW tkE
        rw [if_neg a, if_pos b]
        refine ⟨by rw [lcs_len]; exact d, fun x hx => ?_⟩
        unfold lcs at hx
        obtain ⟨i, hi, rfl⟩ := List.mem_map.mp hx
        have hi : i < tkL tp n q - tkP tp n q := by simpa using hi
        have := lt_cd (d3 (tkP tp n q + i) (by omega) (by omega))
        exact ⟨this.1, this.2.1⟩
      · rw [if_neg d] at k; cases k
    · rw [if_neg b] at k
      split at k
      · split at k <;> cases k
      · split at k
        · cases k
        · split at k <;> cases k
def num (b : Nat) (l : List Nat) : Nat := l.foldl (fun a x => a * b + x) 0
theorem num_s (b : Nat) (l : List Nat) (x : Nat) : num b (l ++ [x]) = num b l * b + x := by
  unfold num
  rw [List.foldl_append]; rfl
theorem num_inj {b : Nat} (hb : 26 < b) : ∀ (n : Nat) (l l' : List Nat), l.length = n → (∀ x, x ∈ l → 1 ≤ x ∧ x ≤ 26) → (∀ x, x ∈ l' → 1 ≤ x ∧ x ≤ 26) → num b l = num b l' → l = l'
  | 0, l, l', hl, h, h', e => by
    have : l = [] := List.eq_nil_of_length_eq_zero hl
    subst this
    rcases List.eq_nil_or_concat l' with rfl | ⟨u, x, rfl⟩
    · rfl
    · rw [List.concat_eq_append] at h' e
      rw [num_s] at e
      have := h' x (by simp)
      have e : 0 = num b u * b + x := e
      omega
  | n + 1, l, l', hl, h, h', e => by
    rcases List.eq_nil_or_concat l with rfl | ⟨u, x, rfl⟩
    · simp at hl
    · rw [List.concat_eq_append] at h e hl ⊢
      have hx := h x (by simp)
      rcases List.eq_nil_or_concat l' with rfl | ⟨v, y, rfl⟩
      · rw [num_s] at e
        have e : num b u * b + x = 0 := e
        omega
      · rw [List.concat_eq_append] at h' e ⊢
        have hy := h' y (by simp)
        rw [num_s, num_s] at e
        have e1 : (num b u * b + x) % b = (num b v * b + y) % b := by rw [e]
        have e2 : (num b u * b + x) / b = (num b v * b + y) / b := by rw [e]
        rw [Nat.mul_comm, Nat.mul_comm (num b v), Nat.mul_add_mod, Nat.mul_add_mod, Nat.mod_eq_of_lt (by omega), Nat.mod_eq_of_lt (by omega)] at e1
        rw [Nat.mul_comm, Nat.mul_comm (num b v), Nat.mul_add_div (by omega), Nat.mul_add_div (by omega), Nat.div_eq_of_lt (by omega), Nat.div_eq_of_lt (by omega), Nat.add_zero, Nat.add_zero] at e2
        have := num_inj hb n u v (by simpa using hl) (fun z hz => h z (by simp [hz])) (fun z hz => h' z (by simp [hz])) e2
        rw [this, e1]
theorem num_lt {b : Nat} (hb : 26 < b) : ∀ (n : Nat) (l : List Nat), l.length = n → (∀ x, x ∈ l → 1 ≤ x ∧ x ≤ 26) → num b l < b ^ n
  | 0, l, hl, h => by
    have : l = [] := List.eq_nil_of_length_eq_zero hl
    subst this; exact (by decide : 0 < 1)
  | n + 1, l, hl, h => by
    rcases List.eq_nil_or_concat l with rfl | ⟨u, x, rfl⟩
    · simp at hl
    · rw [List.concat_eq_append] at h hl ⊢
      have hx := h x (by simp)
      have h1 := num_lt hb n u (by simpa using hl) (fun z hz => h z (by simp [hz]))
      rw [num_s, Nat.pow_succ]
      have : (num b u + 1) * b ≤ b ^ n * b := Nat.mul_le_mul h1 (Nat.le_refl _)
      rw [Nat.add_mul] at this
      omega
def cd (b : Nat) (l : List Nat) : Int64 := Int64.ofNat (num b l)
theorem cd_inj {b : Nat} (hb : 26 < b) (hb2 : b ≤ 32) {l l' : List Nat} (h : wOK l) (h' : wOK l') : cd b l = cd b l' ↔ l = l' := by
  constructor
  · intro e
    refine num_inj hb _ l l' rfl h.2 h'.2 ?_
    have bd : ∀ u, wOK u → num b u < 2 ^ 63 := fun u hu => by
      have h1 := num_lt hb _ u rfl hu.2
      have h2 : b ^ u.length ≤ 32 ^ u.length := Nat.pow_le_pow_left hb2 _
      have h3 : 32 ^ u.length ≤ 32 ^ 8 := Nat.pow_le_pow_right (by decide) hu.1
      have h4 : 32 ^ 8 < 2 ^ 63 := by decide
      omega
    have := congrArg Int64.toInt e
    unfold cd at this
    rw [Int64.toInt_ofNat_of_lt (bd l h), Int64.toInt_ofNat_of_lt (bd l' h')] at this
    omega
  · intro e; rw [e]
theorem cd_s27 (l : List Nat) {x : Int32} (h : ltB x = true) : cd 27 l * 27 + (x - n32 97 + n32 1).toInt64 = cd 27 (l ++ [lcd x]) := by
  obtain ⟨h1, h2, h3⟩ := lt_cd h
  have e : (x - n32 97 + n32 1).toInt64 = Int64.ofNat (lcd x) := by
    have := lt_long ⟨lcd x, by omega⟩
    rw [← h3] at this
    exact this
  rw [e]
  unfold cd
  rw [num_s, Int64.ofNat_add, Int64.ofNat_mul]
  rfl
theorem cd_s32 (l : List Nat) {x : Int32} (h : ltB x = true) : 32 * cd 32 l + (x - n32 97 + n32 1).toInt64 = cd 32 (l ++ [lcd x]) := by
  obtain ⟨h1, h2, h3⟩ := lt_cd h
  have e : (x - n32 97 + n32 1).toInt64 = Int64.ofNat (lcd x) := by
    have := lt_long ⟨lcd x, by omega⟩
    rw [← h3] at this
    exact this
  rw [e]
  unfold cd
  rw [num_s, Int64.ofNat_add, Nat.mul_comm, Int64.ofNat_mul]
  rfl
/-- the String constants -/
def strW (i : Nat) : List Nat := (sY.getD i []).map lcd
theorem strW_ok : ∀ i : Fin 40, (strW i).length ≤ 8 ∧ ∀ x, x ∈ strW i → 1 ≤ x ∧ x ≤ 26 := by decide +kernel
theorem strW_okI {i : Nat} (h : i < 40) : wOK (strW i) := strW_ok ⟨i, h⟩
theorem strW_20 : ∀ i : Fin 20, strW (20 + i) = strW i := by decide +kernel
theorem strW_20I {i : Nat} (h : i < 20) : strW (20 + i) = strW i := strW_20 ⟨i, h⟩
theorem strW_len (i : Nat) : (strW i).length = (sY.getD i []).length := by simp [strW]
theorem str_lt : ∀ i : Fin 40, ∀ x, x ∈ sY.getD i [] → ltB x = true := by decide +kernel
