/-! WHAT IT MEANS THAT BYTECODE DOES IT. G: what is fixed for the whole run; K: a method. A String constant is, in pure values, .retAddr i: its number. -/
def isNest : Cond → Bool
  | .fieldLinkNest .. => true
  | .methodLinkNest .. => true
  | .declares .. => true
  | _ => false
theorem warmD {y : MethodName} {s U : State} (hW : s.WarmedH U.vm) (hZ : va_Nw (.declares y) s) : va_Nw (.declares y) U := va_tabs rfl (rfl : (s.setVm U.vm).vm = U.vm) (by rw [Cond.declares_setVm hW.alike]; exact hZ)
def TBL : List Cond := lw_tbl.filter goodWord
def NST : List Cond := lw_tbl.filter isNest
theorem tb {w : Cond} (i : Nat) (h : lw_tbl[i]? = some w) (g : goodWord w = true) : w ∈ TBL := List.mem_filter.mpr ⟨List.mem_of_getElem? h, g⟩
theorem tn {w : Cond} (i : Nat) (h : lw_tbl[i]? = some w) (g : isNest w = true) : w ∈ NST := List.mem_filter.mpr ⟨List.mem_of_getElem? h, g⟩
def cT : List (vw_C × (Nat → FieldType)) := [((RX0, TX0, 9), tyX0), ((RX1, TX1, 4), tyX1), ((RX2, TX2, 3), tyX2), ((RX3, TX3, 5), tyX3), ((RX4, TX4, 20), tyX4), ((RX5, TX5, 20), tyX5), ((RX6, TX6, 3), tyX6), ((RX7, TX7, 5), tyX7), ((RX8, TX8, 15), tyX8), ((RX9, TX9, 30), tyX9), ((RX10, TX10, 33), tyX10)]
def aT (t : Nat) : FieldType := if t = 20 then .int else if t = 21 then .long else if t = 22 then .byte else if t = 23 then .boolean else .object "TwoWeavers$Loom"
/-- launch, first heap, class numbers, slots of fields, array classes, String constants, their rows, the script (address, length, values) -/
abbrev qG : Type := Launch × Heap × (Nat → ClassId) × (Nat → Nat → Nat) × (Nat → ClassId) × (Nat → Nat) × Option Nat × (Nat × Nat × (Nat → Int32))
abbrev gl (G : qG) : Launch := G.1
abbrev gH (G : qG) : Heap := G.2.1
abbrev gB (G : qG) : Nat := G.2.1.size
abbrev gC (G : qG) : Nat → ClassId := G.2.2.1
abbrev gS (G : qG) : Nat → Nat → Nat := G.2.2.2.1
abbrev gA (G : qG) : Nat → ClassId := G.2.2.2.2.1
abbrev gK (G : qG) : Nat → Nat := G.2.2.2.2.2.1
abbrev gV (G : qG) (i : Nat) : Nat := gK G (100 + i)
abbrev gF (G : qG) : Option Nat := G.2.2.2.2.2.2.1
abbrev gX (G : qG) : Nat × Nat × (Nat → Int32) := G.2.2.2.2.2.2.2
/-- name, code, locals, result, frames and locals' words below it -/
abbrev qK : Type := MethodName × ByteArray × Nat × Option FieldType × Nat × Nat
abbrev kY (K : qK) : MethodName := K.1
abbrev kC (K : qK) : ByteArray := K.2.1
abbrev kL (K : qK) : Nat := K.2.2.1
abbrev kT (K : qK) : Option FieldType := K.2.2.2.1
abbrev kF (K : qK) : Nat := K.2.2.2.2.1
abbrev kO (K : qK) : Nat := K.2.2.2.2.2
/-- the String constants: class, pool entry, text; their bytes -/
def sT : List (String × Nat × String) := [("TwoWeavers$Reader", 140, "cloth"), ("TwoWeavers$Reader", 146, "colour"), ("TwoWeavers$Reader", 148, "row"), ("TwoWeavers$Reader", 150, "next"), ("TwoWeavers$Reader", 152, "answers"), ("TwoWeavers$Reader", 154, "left"), ("TwoWeavers$Reader", 156, "right"), ("TwoWeavers$Reader", 158, "motif"), ("TwoWeavers$Reader", 160, "note"), ("TwoWeavers$Reader", 162, "seam"), ("TwoWeavers$Reader", 164, "then"), ("TwoWeavers$Reader", 166, "before"), ("TwoWeavers$Reader", 198, "length"), ("TwoWeavers$Reader", 208, "slack"), ("TwoWeavers$Reader", 215, "rate"), ("TwoWeavers$Reader", 228, "of"), ("TwoWeavers$Reader", 272, "plain"), ("TwoWeavers$Reader", 274, "mirrored"), ("TwoWeavers$Reader", 276, "turning"), ("TwoWeavers$Reader", 278, "growing"), ("TwoWeaversModel", 146, "cloth"), ("TwoWeaversModel", 148, "colour"), ("TwoWeaversModel", 150, "row"), ("TwoWeaversModel", 151, "next"), ("TwoWeaversModel", 153, "answers"), ("TwoWeaversModel", 155, "left"), ("TwoWeaversModel", 156, "right"), ("TwoWeaversModel", 158, "motif"), ("TwoWeaversModel", 160, "note"), ("TwoWeaversModel", 162, "seam"), ("TwoWeaversModel", 164, "then"), ("TwoWeaversModel", 165, "before"), ("TwoWeaversModel", 230, "length"), ("TwoWeaversModel", 237, "slack"), ("TwoWeaversModel", 244, "rate"), ("TwoWeaversModel", 265, "of"), ("TwoWeaversModel", 311, "plain"), ("TwoWeaversModel", 313, "mirrored"), ("TwoWeaversModel", 315, "turning"), ("TwoWeaversModel", 317, "growing")]
def sY : List (List Int32) := [[99, 108, 111, 116, 104], [99, 111, 108, 111, 117, 114], [114, 111, 119], [110, 101, 120, 116], [97, 110, 115, 119, 101, 114, 115], [108, 101, 102, 116], [114, 105, 103, 104, 116], [109, 111, 116, 105, 102], [110, 111, 116, 101], [115, 101, 97, 109], [116, 104, 101, 110], [98, 101, 102, 111, 114, 101], [108, 101, 110, 103, 116, 104], [115, 108, 97, 99, 107], [114, 97, 116, 101], [111, 102], [112, 108, 97, 105, 110], [109, 105, 114, 114, 111, 114, 101, 100], [116, 117, 114, 110, 105, 110, 103], [103, 114, 111, 119, 105, 110, 103], [99, 108, 111, 116, 104], [99, 111, 108, 111, 117, 114], [114, 111, 119], [110, 101, 120, 116], [97, 110, 115, 119, 101, 114, 115], [108, 101, 102, 116], [114, 105, 103, 104, 116], [109, 111, 116, 105, 102], [110, 111, 116, 101], [115, 101, 97, 109], [116, 104, 101, 110], [98, 101, 102, 111, 114, 101], [108, 101, 110, 103, 116, 104], [115, 108, 97, 99, 107], [114, 97, 116, 101], [111, 102], [112, 108, 97, 105, 110], [109, 105, 114, 114, 111, 114, 101, 100], [116, 117, 114, 110, 105, 110, 103], [103, 114, 111, 119, 105, 110, 103]]
/-- what a throw of led's rests on -/
def KnX (G : qG) (U : State) : Prop :=
  vk_R "TwoWeavers" 293 "no such row that neither side can weave" (gK G 40) U ∧ vx_Zq Bundle.tN "UNASSIGNED_STACK" Bundle.steD (fun a => gB G ≤ a) U (gH G) ∧ vx_Zq Bundle.tN "SUPPRESSED_SENTINEL" Bundle.listD (fun a => gB G ≤ a) U (gH G) ∧
  (∃ c : ClassId, U.vm.findClass "java/util/NoSuchElementException" = some c ∧ U.vm.assignable c c = true) ∧ (gl G).stackTraces = false
theorem KnX.moved {G : qG} {s U : State} (hW : s.WarmedH U.vm) (h : KnX G s) : KnX G U := by
  obtain ⟨h1, h2, h3, ⟨c, h4, h5⟩, h6⟩ := h
  exact ⟨h1.warm hW, h2.moved hW.alike, h3.moved hW.alike, ⟨c, by rw [hW.alike.findClass]; exact h4, by rw [hW.alike.assignable]; exact h5⟩, h6⟩
def Kn (G : qG) (U : State) : Prop :=
  (∀ w ∈ TBL, w.before #[] U = true) ∧ (∀ w ∈ NST, va_Nw w U) ∧ (∀ (t : Nat) (q : vw_C × (Nat → FieldType)), cT[t]? = some q → u_Kn U q.1.1 q.1.2.1 q.1.2.2 (gC G t) (gS G t)) ∧
  (∀ t : Nat, 20 ≤ t → t ≤ 24 → ArrOfT U (gA G t) (aT t) ∧ va_RA U (gA G t) (aT t)) ∧ va_AO "TwoWeavers$Loom" U ∧
  (∀ (i : Nat) (q : String × Nat × String), sT[i]? = some q → vk_R q.1 q.2.1 q.2.2 (gK G i) U ∧ va_O "java/lang/String" (gK G i) (fun a => gB G ≤ a) U (gH G) ∧ va_OF "java/lang/String" "coder" "B" (.int 0) (gK G i) (fun a => gB G ≤ a) U (gH G) ∧ va_OF "java/lang/String" "value" "[B" (.ref (gV G i)) (gK G i) (fun a => gB G ≤ a) U (gH G) ∧ va_T .byte (gV G i) (sY.getD i []).length (fun j => .int ((sY.getD i []).getD j 0)) (fun a => gB G ≤ a) U (gH G)) ∧
  va_Z "java/lang/String" "COMPACT_STRINGS" "Z" (.int 1) (fun a => gB G ≤ a) U (gH G) ∧
  va_Z "jdk/internal/util/Preconditions" "SIOOBE_FORMATTER" "Ljava/util/function/BiFunction;" (va_rf (gF G)) (fun a => gB G ≤ a) U (gH G) ∧
  (va_X (gX G).1 (gX G).2.1 (gX G).2.2 U (gH G) ∧ (gX G).1 < gB G) ∧ KnX G U
theorem Kn.moved {G : qG} {s U : State} (hW : s.WarmedH U.vm) (h : Kn G s) : Kn G U := by
  obtain ⟨h1, h2, h3, h4, h5, h6, h7, h8, ⟨h9, h10⟩, h11⟩ := h
  refine ⟨fun w hw => word_at hW (good_of_word (List.mem_filter.mp hw).2) (h1 w hw), fun w hw => ?_, fun t q hq => u_Kn_moved hW.alike (h3 t q hq), fun t a b => ⟨arrOfT_moved hW.alike (h4 t a b).1, (h4 t a b).2.moved hW.alike⟩, h5.moved hW.alike, fun i q hq => ?_, h7.moved hW.alike, h8.moved hW.alike, ⟨h9.moved hW.alike, h10⟩, h11.moved hW⟩
  · have hn := (List.mem_filter.mp hw).2
    have hz := h2 w hw
    cases w <;> first | exact va_Nw.warmF hW hz | exact va_Nw.warmM hW hz | exact warmD hW hz | (simp [isNest] at hn)
  · obtain ⟨g1, g2, g3, g4, g5⟩ := h6 i q hq
    exact ⟨g1.warm hW, g2.moved hW.alike, g3.moved hW.alike, g4.moved hW.alike, g5.moved hW.alike⟩
theorem Kn.word {G : qG} {s : State} (h : Kn G s) {w : Cond} (hw : w ∈ TBL) (args : Array Value) : w.before args s = true := word_at (State.WarmedH.refl s) (good_of_word (List.mem_filter.mp hw).2) (h.1 w hw)
/-- what a place of this type holds -/
def fv (ty : Nat → FieldType) (M : qM) (a k : Nat) : Value := match ty k with
  | .long => .long (vl M a k)
  | .object _ => va_rf (vr M a k)
  | .array _ => va_rf (vr M a k)
  | _ => .int (vi M a k)
def isI (t : FieldType) : Bool := match t with
  | .long => false
  | .object _ => false
  | .array _ => false
  | _ => true
def isR (t : FieldType) : Bool := match t with
  | .object _ => true
  | .array _ => true
  | _ => false
theorem fv_I {ty : Nat → FieldType} {k : Nat} (h : isI (ty k) = true) (M : qM) (a : Nat) : fv ty M a k = .int (vi M a k) := by
  unfold fv; cases e : ty k <;> simp_all [isI]
theorem fv_L {ty : Nat → FieldType} {k : Nat} (h : ty k = .long) (M : qM) (a : Nat) : fv ty M a k = .long (vl M a k) := by
  unfold fv; rw [h]
theorem fv_R {ty : Nat → FieldType} {k : Nat} (h : isR (ty k) = true) (M : qM) (a : Nat) : fv ty M a k = va_rf (vr M a k) := by
  unfold fv; cases e : ty k <;> simp_all [isR]
theorem fv_pI {ty : Nat → FieldType} {M : qM} {a k : Nat} {x : Int32} (h : isI (ty k) = true) (j : Nat) : fv ty (pI M a k x) a j = updV (fv ty M a) k (.int x) j := by
  by_cases hj : j = k
  · subst hj
    rw [fv_I h]; simp [updV, vi, pI, u2]
  · simp only [updV, hj, if_false]
    unfold fv; cases ty j <;> simp [vi, vl, vr, pI, u2, hj]
theorem fv_pL {ty : Nat → FieldType} {M : qM} {a k : Nat} {x : Int64} (h : ty k = .long) (j : Nat) : fv ty (pL M a k x) a j = updV (fv ty M a) k (.long x) j := by
  by_cases hj : j = k
  · subst hj
    rw [fv_L h]; simp [updV, vl, pL, u2]
  · simp only [updV, hj, if_false]
    unfold fv; cases ty j <;> simp [vi, vl, vr, pL, u2, hj]
theorem fv_pR {ty : Nat → FieldType} {M : qM} {a k : Nat} {x : Option Nat} (h : isR (ty k) = true) (j : Nat) : fv ty (pR M a k x) a j = updV (fv ty M a) k (va_rf x) j := by
  by_cases hj : j = k
  · subst hj
    rw [fv_R h]; simp [updV, vr, pR, u2]
  · simp only [updV, hj, if_false]
    unfold fv; cases ty j <;> simp [vi, vl, vr, pR, u2, hj]
theorem fv_pI_ne {ty : Nat → FieldType} {M : qM} {a k b : Nat} {x : Int32} (h : b ≠ a) (j : Nat) : fv ty (pI M a k x) b j = fv ty M b j := by
  unfold fv; cases ty j <;> simp [vi, vl, vr, pI, u2, h]
theorem fv_pL_ne {ty : Nat → FieldType} {M : qM} {a k b : Nat} {x : Int64} (h : b ≠ a) (j : Nat) : fv ty (pL M a k x) b j = fv ty M b j := by
  unfold fv; cases ty j <;> simp [vi, vl, vr, pL, u2, h]
theorem fv_pR_ne {ty : Nat → FieldType} {M : qM} {a k b : Nat} {x : Option Nat} (h : b ≠ a) (j : Nat) : fv ty (pR M a k x) b j = fv ty M b j := by
  unfold fv; cases ty j <;> simp [vi, vl, vr, pR, u2, h]
def cOK (G : qG) (M : qM) (a : Nat) (H : Heap) : Prop :=
  if (tg M a).1 < 20 then ∃ q, cT[(tg M a).1 - 1]? = some q ∧ t_OB a (gC G ((tg M a).1 - 1)) q.1.2.2 (gS G ((tg M a).1 - 1)) H (fv q.2 M a)
  else (tg M a).1 ≤ 24 ∧ H[a]? = some (arrV (gA G (tg M a).1) (tg M a).2 (fv (fun _ => aT (tg M a).1) M a))
def rp (G : qG) (M : qM) (H : Heap) : Prop := H.size = mN M ∧ gB G ≤ mN M ∧ (∀ q, q < gB G → H[q]? = (gH G)[q]?) ∧ ∀ a, (tg M a).1 ≠ 0 → gB G ≤ a ∧ a < mN M ∧ cOK G M a H
theorem cOK.kept {G : qG} {M M' : qM} {a : Nat} {H H' : Heap} (h : cOK G M a H) (e2 : tg M' a = tg M a) (e3 : ∀ (ty : Nat → FieldType) (j : Nat), fv ty M' a j = fv ty M a j) (o : H'[a]? = H[a]?) : cOK G M' a H' := by
  unfold cOK at h ⊢
  rw [e2]
  have e3' : ∀ ty : Nat → FieldType, fv ty M' a = fv ty M a := fun ty => funext (e3 ty)
  split
  · rename_i hl
    rw [if_pos hl] at h
    obtain ⟨q, h1, h2⟩ := h
    exact ⟨q, h1, by rw [e3']; exact h2.kept o⟩
  · rename_i hl
    rw [if_neg hl] at h
    exact ⟨h.1, by rw [o, e3']; exact h.2⟩
theorem rp.upd {G : qG} {M M' : qM} {a : Nat} {H H' : Heap} (h : rp G M H) (ht : (tg M a).1 ≠ 0) (e1 : mN M' = mN M) (e2 : tg M' = tg M) (e3 : ∀ (ty : Nat → FieldType) (b j : Nat), b ≠ a → fv ty M' b j = fv ty M b j) (z : H'.size = H.size) (o : ∀ q, q ≠ a → H'[q]? = H[q]?) (hc : cOK G M' a H') : rp G M' H' := by
  obtain ⟨h1, h2, h3, h4⟩ := h
  refine ⟨by rw [z, e1]; exact h1, by rw [e1]; exact h2, fun q hq => ?_, fun b hb => ?_⟩
  · rw [o q (by have := (h4 a ht).1; omega)]; exact h3 q hq
  · rw [e2] at hb
    obtain ⟨g1, g2, g3⟩ := h4 b hb
    refine ⟨g1, by rw [e1]; exact g2, ?_⟩
    by_cases hba : b = a
    · subst hba; exact hc
    · exact g3.kept (by rw [e2]) (fun ty j => e3 ty b j hba) (o b hba)
/-- pure values as the machine has them -/
def cv (G : qG) (v : Value) : Value := match v with
  | .retAddr i => .ref (gK G i)
  | .float _ => va_rf (gF G)
  | x => x
def Ok (G : qG) (b : Nat × Nat) (M : qM) (H : Heap) (locs : List Loc) (cells slots : Nat) : Prop := rp G M H ∧ (∀ q ∈ locs, gB G ≤ q.base) ∧ cells + b.1 = mN M ∧ slots + b.2 = mU M
def Lk (G : qG) (K : qK) (env : qE) (ls : Array Slot) : Prop := ls.size = kL K ∧ lv_wf ls ∧ ∀ (i : Nat) (v : Value), env[i]? = some v → v ≠ .null → ls[i]? = some (.val (cv G v))
abbrev wt (st : List Value) : Nat := (st.map fun v => v.category).sum
def rtOK (K : qK) (v : Option Value) (pc : Nat) : Prop := match v with
  | none => decode (kC K) pc = .ok (.return_, 1) ∧ kT K = none
  | some (.int x) => decode (kC K) pc = .ok (.ireturn, 1) ∧ (kT K = some .int ∨ ∃ ty, kT K = some ty ∧ narrow ty (.int x) = .int x)
  | some (.long _) => decode (kC K) pc = .ok (.lreturn, 1) ∧ kT K = some .long
  | _ => False
abbrev qW : Type := Heap → List Loc → Nat → Nat → JFrame → Prop
/-- w is the machine's 'comes to its end' inside method K; it ends with vF and MF -/
def Mx (G : qG) (K : qK) (w : qW) (mt : MethodId) (b : Nat × Nat) (vF : Option Value) (MF : qM) : Prop :=
  ∃ (p : Program) (e : Env) (R : Room) (s : State) (args : Array Value) (below : List Frame) (meth : Method) (c : Code) (Q : State → Prop),
    w = (fun H locs cells slots g => W p (gl G) e R s mt args below meth c H locs cells slots Q g) ∧ p.tables.exec = Jvm.exec ∧ c.code = kC K ∧ c.maxLocals = kL K ∧ s.vm.findClass (kY K).cls = some mt.cls ∧ Kn G s ∧ meth.name = (kY K).name ∧
    R.frames = kF K ∧ R.locals = kO K ∧ mN MF ≤ R.cells + b.1 ∧ mU MF ≤ R.slots + b.2 ∧
    ∀ (pc : Nat) (ls : Array Slot) (H : Heap) (locs : List Loc) (cells slots : Nat), rtOK K vF pc → Ok G b MF H locs cells slots → w H locs cells slots (F0 mt pc ls vF.toList)
def Mono {α : Type} (f : Ev α) : Prop := ∀ env M x M', f env M = some (x, M') → mN M ≤ mN M' ∧ mU M ≤ mU M'
/-- from pc to pc' an expression is computed and its values pushed; d: how much more may lie below at a call -/
def XP {α : Type} (G : qG) (K : qK) (d pc pc' : Nat) (π : α → List Value) (f : Ev α) : Prop :=
  Mono f ∧ ∀ w mt b vF MF, Mx G K w mt b vF MF → ∀ env M x M', f env M = some (x, M') → mN M' ≤ mN MF → mU M' ≤ mU MF → ∀ (st : List Value) (ls : Array Slot) (H : Heap) (locs : List Loc) (cells slots : Nat), wt st + d ≤ 8 → Lk G K env ls → Ok G b M H locs cells slots →
    (∀ H' locs' cells' slots', Ok G b M' H' locs' cells' slots' → w H' locs' cells' slots' (F0 mt pc' ls (π x ++ st))) → w H locs cells slots (F0 mt pc ls st)
def XC (G : qG) (K : qK) (d pc pt pf : Nat) (f : Ev Bool) : Prop :=
  Mono f ∧ ∀ w mt b vF MF, Mx G K w mt b vF MF → ∀ env M x M', f env M = some (x, M') → mN M' ≤ mN MF → mU M' ≤ mU MF → ∀ (st : List Value) (ls : Array Slot) (H : Heap) (locs : List Loc) (cells slots : Nat), wt st + d ≤ 8 → Lk G K env ls → Ok G b M H locs cells slots →
    (∀ H' locs' cells' slots', Ok G b M' H' locs' cells' slots' → w H' locs' cells' slots' (F0 mt (if x = true then pt else pf) ls st)) → w H locs cells slots (F0 mt pc ls st)
def MonoS (f : Sv) : Prop := ∀ env M r env' M', f env M = some (r, env', M') → mN M ≤ mN M' ∧ mU M ≤ mU M'
/-- where a statement leaves to -/
def exS (r : Re) (pn pb pk : Nat) : Option Nat := match r with
  | .inl 0 => some pn
  | .inl 1 => some pb
  | .inl 2 => some pk
  | _ => none
def XS (G : qG) (K : qK) (pc pn pb pk : Nat) (f : Sv) : Prop :=
  MonoS f ∧ ∀ w mt b vF MF, Mx G K w mt b vF MF → ∀ env M r env' M', f env M = some (r, env', M') → mN M' ≤ mN MF → mU M' ≤ mU MF → (∀ v, r = .inr v → v = vF ∧ M' = MF) → ∀ (ls : Array Slot) (H : Heap) (locs : List Loc) (cells slots : Nat), Lk G K env ls → Ok G b M H locs cells slots →
    (∀ t, exS r pn pb pk = some t → ∀ ls' H' locs' cells' slots', Lk G K env' ls' → Ok G b M' H' locs' cells' slots' → w H' locs' cells' slots' (F0 mt t ls' [])) → w H locs cells slots (F0 mt pc ls [])
/-- a method's contract: its pure function says what it does -/
def PC (G : qG) (args : List Value) (M : qM) : Array Value → State → Prop := fun a U => a = (args.map (cv G)).toArray ∧ Kn G U ∧ rp G M U.heap
def QC (G : qG) (v : Option Value) (M : qM) : Array Value → State → Outcome → State → Prop := fun _ _ o t => o = .returned v ∧ rp G M t.heap
def wsK (K : qK) : List Cond := Cond.code (kY K) (kC K) (kL K) (kT K) :: TBL
def rmK (K : qK) (M M' : qM) : Room := { frames := kF K, cells := mN M' - mN M, slots := mU M' - mU M, locals := kO K }
def CK (G : qG) (K : qK) (F : Fn) : Prop := ∀ args M v M', F args M = some (v, M') → mN M ≤ mN M' ∧ mU M ≤ mU M' ∧ Met (gl G) (kY K) (wsK K) (rmK K M M') (PC G args M) (QC G v M') (mN M' - mN M) (mU M' - mU M) (fun q => gB G ≤ q)
