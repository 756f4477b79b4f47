/-! NUMBERS AND BITS: naturals as ints, sets of rows as the bits of an int -/
def n32 (n : Nat) : Int32 := Int32.ofNat n
theorem n32_toInt {n : Nat} (h : n < 2147483648) : (n32 n).toInt = n := Int32.toInt_ofNat_of_lt h
theorem n32_clamp {n : Nat} (h : n < 2147483648) : (n32 n).toNatClampNeg = n := Int32.toNatClampNeg_ofNat_of_lt h
theorem n32_add (a b : Nat) : n32 a + n32 b = n32 (a + b) := (Int32.ofNat_add a b).symm
theorem n32_mul (a b : Nat) : n32 a * n32 b = n32 (a * b) := (Int32.ofNat_mul a b).symm
theorem n32_sub {a b : Nat} (h : b ≤ a) : n32 a - n32 b = n32 (a - b) := (Int32.ofNat_sub a b h).symm
theorem n32_inc (a : Nat) : n32 a + Int32.ofInt 1 = n32 (a + 1) := n32_add a 1
theorem n32_dec {a : Nat} (h : 0 < a) : n32 a + Int32.ofInt (-1) = n32 (a - 1) := by
  have h1 : n32 a = n32 (a - 1) + n32 1 := by rw [n32_add]; congr 1; omega
  rw [h1, Int32.add_assoc]
  have h2 : n32 1 + Int32.ofInt (-1) = 0 := by decide
  rw [h2, Int32.add_zero]
theorem n32_inj {a b : Nat} (ha : a < 2147483648) (hb : b < 2147483648) : n32 a = n32 b ↔ a = b := by
  constructor
  · intro h
    have := congrArg Int32.toInt h
    rw [n32_toInt ha, n32_toInt hb] at this
    omega
  · intro h; rw [h]
theorem n32_lt {a b : Nat} (ha : a < 2147483648) (hb : b < 2147483648) : n32 a < n32 b ↔ a < b := by
  rw [Int32.lt_iff_toInt_lt, n32_toInt ha, n32_toInt hb]; omega
theorem n32_le {a b : Nat} (ha : a < 2147483648) (hb : b < 2147483648) : n32 a ≤ n32 b ↔ a ≤ b := by
  rw [Int32.le_iff_toInt_le, n32_toInt ha, n32_toInt hb]; omega
theorem n_iEq {a b : Nat} (ha : a < 2147483648) (hb : b < 2147483648) : iEq (n32 a) (n32 b) = decide (a = b) := by unfold iEq; rw [decide_eq_decide]; exact n32_inj ha hb
theorem n_iNe {a b : Nat} (ha : a < 2147483648) (hb : b < 2147483648) : iNe (n32 a) (n32 b) = decide (a ≠ b) := by unfold iNe; rw [decide_eq_decide]; exact not_congr (n32_inj ha hb)
theorem n_iLt {a b : Nat} (ha : a < 2147483648) (hb : b < 2147483648) : iLt (n32 a) (n32 b) = decide (a < b) := by unfold iLt; rw [decide_eq_decide]; exact n32_lt ha hb
theorem n_iLe {a b : Nat} (ha : a < 2147483648) (hb : b < 2147483648) : iLe (n32 a) (n32 b) = decide (a ≤ b) := by unfold iLe; rw [decide_eq_decide]; exact n32_le ha hb
theorem n_iGt {a b : Nat} (ha : a < 2147483648) (hb : b < 2147483648) : iGt (n32 a) (n32 b) = decide (b < a) := by unfold iGt; rw [decide_eq_decide]; exact n32_lt hb ha
theorem n_iGe {a b : Nat} (ha : a < 2147483648) (hb : b < 2147483648) : iGe (n32 a) (n32 b) = decide (b ≤ a) := by unfold iGe; rw [decide_eq_decide]; exact n32_le hb ha
theorem n_inb {i n : Nat} (hi : i < 2147483648) : inb (n32 i) n = decide (i < n) := by
  unfold inb
  rw [decide_eq_decide, n32_clamp hi]
  have h0 : ¬ n32 i < 0 := by
    have h : (0 : Int32) = n32 0 := rfl
    rw [h, n32_lt hi (by decide)]; omega
  constructor
  · intro h
    exact Nat.lt_of_not_le fun z => h (Or.inr z)
  · rintro h (z | z)
    · exact h0 z
    · omega
/-- an int that isn't below 0 -/
theorem n32_of {x : Int32} (h : 0 ≤ x) : x = n32 x.toNatClampNeg := (Int32.ofNat_toNatClampNeg x h).symm
theorem clamp_lt (x : Int32) : x.toNatClampNeg < 2147483648 := x.toNatClampNeg_lt
/-- in 0 .. n-1, of any int -/
theorem rng {x : Int32} {n : Nat} (hn : n < 2147483648) : (0 ≤ x ∧ x < n32 n) ↔ ∃ k, k < n ∧ x = n32 k := by
  constructor
  · rintro ⟨h1, h2⟩
    have e := n32_of h1
    refine ⟨x.toNatClampNeg, ?_, e⟩
    rw [e, n32_lt (clamp_lt x) hn] at h2
    exact h2
  · rintro ⟨k, hk, rfl⟩
    have h : (0 : Int32) = n32 0 := rfl
    exact ⟨by rw [h, n32_le (by decide) (by omega)]; omega, (n32_lt (by omega) hn).mpr hk⟩
/-- bit i of an int -/
def bt (x : Int32) (i : Nat) : Bool := x.toBitVec.getLsbD i
theorem bt_or (x y : Int32) (i : Nat) : bt (x ||| y) i = (bt x i || bt y i) := by simp [bt]
theorem bt_and (x y : Int32) (i : Nat) : bt (x &&& y) i = (bt x i && bt y i) := by simp [bt]
theorem bt_xor (x y : Int32) (i : Nat) : bt (x ^^^ y) i = (bt x i ^^ bt y i) := by simp [bt]
theorem bt_zero (i : Nat) : bt 0 i = false := by simp [bt]
theorem bt_ge {x : Int32} {i : Nat} (h : 32 ≤ i) : bt x i = false := BitVec.getLsbD_of_ge _ _ h
theorem bt_m1 {i : Nat} (h : i < 32) : bt (-1) i = true := by
  have : ∀ k : Fin 32, bt (-1) k = true := by decide
  exact this ⟨i, h⟩
theorem bt_ext {x y : Int32} (h : ∀ i, i < 32 → bt x i = bt y i) : x = y := Int32.toBitVec.inj (BitVec.eq_of_getLsbD_eq h)
theorem bt_cpl (x : Int32) {i : Nat} (h : i < 32) : bt (x ^^^ -1) i = !bt x i := by rw [bt_xor, bt_m1 h]; simp
theorem shl1 {r : Nat} (h : r < 32) : shlI 1 (n32 r) = Int32.ofBitVec (BitVec.twoPow 32 r) := by
  have : ∀ k : Fin 32, shlI 1 (n32 k) = Int32.ofBitVec (BitVec.twoPow 32 k) := by decide +kernel
  exact this ⟨r, h⟩
theorem bt_shl {r i : Nat} (h : r < 32) : bt (shlI 1 (n32 r)) i = decide (i = r) := by
  rw [shl1 h]
  show (BitVec.twoPow 32 r).getLsbD i = _
  rw [BitVec.getLsbD_twoPow]
  by_cases e : r = i
  · subst e; simp [h]
  · simp [e, Ne.symm e]
theorem shr_amt {r : Nat} (h : r < 32) : ((n32 r &&& 31).toBitVec.smod 32).toNat = r := by
  have : ∀ k : Fin 32, ((n32 k &&& 31).toBitVec.smod 32).toNat = k := by decide +kernel
  exact this ⟨r, h⟩
theorem bt_shr {x : Int32} {r : Nat} (h : r < 32) : bt (shrI x (n32 r)) 0 = bt x r := by
  unfold bt shrI
  rw [Int32.toBitVec_shiftRight]
  show (x.toBitVec.sshiftRight ((n32 r &&& 31).toBitVec.smod 32).toNat).getLsbD 0 = _
  rw [shr_amt h, BitVec.getLsbD_sshiftRight]
  simp [h]
theorem and1 (y : Int32) : y &&& 1 = b2i (bt y 0) := by
  apply Int32.toBitVec.inj
  rw [Int32.toBitVec_and]
  show y.toBitVec &&& 1#32 = _
  rw [BitVec.and_one_eq_setWidth_ofBool_getLsbD]
  show BitVec.setWidth 32 (BitVec.ofBool (bt y 0)) = _
  cases bt y 0 <;> rfl
/-- has it the bit? -/
theorem has_ne {x : Int32} {r : Nat} (h : r < 32) : iNe (shrI x (n32 r) &&& 1) 0 = bt x r := by
  rw [and1, bt_shr h]; cases bt x r <;> rfl
theorem has_eq {x : Int32} {r : Nat} (h : r < 32) : iEq (shrI x (n32 r) &&& 1) 1 = bt x r := by
  rw [and1, bt_shr h]; cases bt x r <;> rfl
theorem ne0_bt {x : Int32} : x ≠ 0 ↔ ∃ i, i < 32 ∧ bt x i = true := by
  constructor
  · intro h
    refine Classical.byContradiction fun hn => h (bt_ext fun i hi => ?_)
    rw [bt_zero]
    cases e : bt x i
    · rfl
    · exact absurd ⟨i, hi, e⟩ hn
  · rintro ⟨i, -, hi⟩ rfl
    rw [bt_zero] at hi; cases hi
/-- all rows below k -/
theorem bt_all {k i : Nat} (h : k < 31) : bt (shlI 1 (n32 k) - 1) i = decide (i < k) := by
  by_cases hi : i < 32
  · have : ∀ (a : Fin 31) (b : Fin 32), bt (shlI 1 (n32 a) - 1) b = decide ((b : Nat) < a) := by decide +kernel
    exact this ⟨k, h⟩ ⟨i, hi⟩
  · rw [bt_ge (by omega)]; simp; omega
theorem okZ_b2i (b : Bool) : okZ (b2i b) = true := by cases b <;> rfl
theorem i2z_b2i (b : Bool) : i2z (b2i b) = b := by cases b <;> rfl
theorem b2i_inj {a b : Bool} : b2i a = b2i b ↔ a = b := by cases a <;> cases b <;> decide
theorem b2i_n32 (b : Bool) : b2i b = n32 (if b = true then 1 else 0) := by cases b <;> rfl
