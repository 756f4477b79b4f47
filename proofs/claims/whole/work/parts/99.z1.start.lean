/-! WHAT IS KNOWN AT THE START -/
def ks_w (q : String × Nat × String) (y : List Int32) : List Cond := ([.exactly (.string q.1 q.2.1) "java/lang/String", .eq (.field (.string q.1 q.2.1) "java/lang/String" "coder" "B") (.int 0), .arrayOf (.field (.string q.1 q.2.1) "java/lang/String" "value" "[B") .byte, .eq (.length (.field (.string q.1 q.2.1) "java/lang/String" "value" "[B")) (.int (Int32.ofNat y.length))] : List Cond) ++ (List.range y.length).map fun j => .eq (.elem (.field (.string q.1 q.2.1) "java/lang/String" "value" "[B") (.int (Int32.ofNat j))) (.int (y.getD j 0))
def ks_o : List Nat := [20, 73, 83, 90, 98, 48, 56, 109, 118, 126, 134, 142, 29, 39, 65, 152, 158, 167, 179, 190, 244, 303, 314, 322, 331, 275, 284, 343, 353, 362, 371, 380, 254, 265, 294, 391, 398, 408, 421, 433]
theorem ks_win : ∀ i, i < 40 → ((flatC narrow_1).drop (ks_o.getD i 0)).take (ks_w (sT.getD i ("", 0, "")) (sY.getD i [])).length = ks_w (sT.getD i ("", 0, "")) (sY.getD i []) := by decide +kernel
theorem ks_rin : ∀ q ∈ sT, Cond.stringRef q.1 q.2.1 q.2.2 ∈ lw_tbl := by decide +kernel
theorem ks_ylen : ∀ i, i < 40 → (sY.getD i []).length < 2 ^ 31 := by decide +kernel
section KST
variable {s : State} {A : Array Value}
theorem ks_str (hn : narrow_1.before A s = true) (hts : ∀ w ∈ lw_tbl, w.before A s = true) {P : Nat → Prop} (hA : ∀ a : Nat, a < s.heap.size → ¬ P a) {i : Nat} {q : String × Nat × String} (hq : sT[i]? = some q) :
    ∃ d : Nat × Nat, vk_R q.1 q.2.1 q.2.2 d.1 s ∧ va_O "java/lang/String" d.1 P s s.heap ∧ va_OF "java/lang/String" "coder" "B" (.int 0) d.1 P s s.heap ∧ va_OF "java/lang/String" "value" "[B" (.ref d.2) d.1 P s s.heap ∧ va_T .byte d.2 (sY.getD i []).length (fun j => .int ((sY.getD i []).getD j 0)) P s s.heap := by
  have hi : i < 40 := (List.getElem?_eq_some_iff.mp hq).1
  have he : sT.getD i ("", 0, "") = q := by rw [List.getD_eq_getElem?_getD, hq]; rfl
  have hw := ks_win i hi
  rw [he] at hw
  have hN := ks_ylen i hi
  generalize sY.getD i [] = y at hw hN ⊢
  have hall : ∀ w ∈ ks_w q y, w.before A s = true := fun w h => flat_of_before _ hn w (by
    rw [← hw] at h
    exact List.mem_of_mem_drop (List.mem_of_mem_take h))
  have hex : (Cond.exactly (.string q.1 q.2.1) "java/lang/String").before A s = true := hall _ (by simp [ks_w])
  have hco : (Cond.eq (.field (.string q.1 q.2.1) "java/lang/String" "coder" "B") (.int 0)).before A s = true := hall _ (by simp [ks_w])
  have har : (Cond.arrayOf (.field (.string q.1 q.2.1) "java/lang/String" "value" "[B") .byte).before A s = true := hall _ (by simp [ks_w])
  have hle : (Cond.eq (.length (.field (.string q.1 q.2.1) "java/lang/String" "value" "[B")) (.int (Int32.ofNat y.length))).before A s = true := hall _ (by simp [ks_w])
  have hel : ∀ j : Nat, j < y.length → (Cond.eq (.elem (.field (.string q.1 q.2.1) "java/lang/String" "value" "[B") (.int (Int32.ofNat j))) (.int (y.getD j 0))).before A s = true := fun j hj => hall _ (List.mem_append_right _ (List.mem_map.mpr ⟨j, List.mem_range.mpr hj, rfl⟩))
  obtain ⟨a, c, cA, kA, q1, -⟩ := Cond.exactly_spec (args := A) (first := s) (o := none) (s := s) (idx := []) hex
  obtain ⟨t, ht, hT⟩ := va_Tof (f := fun j => .int (y.getD j 0)) (A := P) hN har (va_eqt hle) (fun j hj => va_eqt (hel j hj)) hA
  exact ⟨(a, t), vk_R.of (hts _ (ks_rin q (List.mem_of_getElem? hq))) q1, va_Oof hex q1 hA, vk_OFof q1 (va_eqt hco) hA, vk_OFof q1 ht hA, hT⟩
theorem ks_strs (hn : narrow_1.before A s = true) (hts : ∀ w ∈ lw_tbl, w.before A s = true) {P : Nat → Prop} (hA : ∀ a : Nat, a < s.heap.size → ¬ P a) :
    ∃ gk : Nat → Nat, (∀ (i : Nat) (q : String × Nat × String), sT[i]? = some q → vk_R q.1 q.2.1 q.2.2 (gk i) s ∧ va_O "java/lang/String" (gk i) P s s.heap ∧ va_OF "java/lang/String" "coder" "B" (.int 0) (gk i) P s s.heap ∧ va_OF "java/lang/String" "value" "[B" (.ref (gk (100 + i))) (gk i) P s s.heap ∧ va_T .byte (gk (100 + i)) (sY.getD i []).length (fun j => .int ((sY.getD i []).getD j 0)) P s s.heap) ∧ vk_R "TwoWeavers" 293 "no such row that neither side can weave" (gk 40) s := by
  have h0 : ∀ i : Nat, ∃ d : Nat × Nat, ∀ q, sT[i]? = some q → vk_R q.1 q.2.1 q.2.2 d.1 s ∧ va_O "java/lang/String" d.1 P s s.heap ∧ va_OF "java/lang/String" "coder" "B" (.int 0) d.1 P s s.heap ∧ va_OF "java/lang/String" "value" "[B" (.ref d.2) d.1 P s s.heap ∧ va_T .byte d.2 (sY.getD i []).length (fun j => .int ((sY.getD i []).getD j 0)) P s s.heap := by
    intro i
    cases e : sT[i]? with
    | none => exact ⟨(0, 0), fun q h => by cases h⟩
    | some q =>
      obtain ⟨d, hd⟩ := ks_str hn hts hA e
      exact ⟨d, fun q' h => by cases h; exact hd⟩
  obtain ⟨ad, had⟩ := Classical.axiomOfChoice h0
  have hex : (Cond.exactly (.string "TwoWeavers" 293) "java/lang/String").before A s = true := flat_of_before _ hn _ (List.mem_of_getElem? (i := 201) (by decide +kernel))
  obtain ⟨a4, c, cA, kA, q1, -⟩ := Cond.exactly_spec (args := A) (first := s) (o := none) (s := s) (idx := []) hex
  refine ⟨fun n => if n < 40 then (ad n).1 else if n = 40 then a4 else (ad (n - 100)).2, fun i q hq => ?_, ?_⟩
  · have hi : i < 40 := (List.getElem?_eq_some_iff.mp hq).1
    have e1 : (if i < 40 then (ad i).1 else if i = 40 then a4 else (ad (i - 100)).2) = (ad i).1 := if_pos hi
    have e2 : (if 100 + i < 40 then (ad (100 + i)).1 else if 100 + i = 40 then a4 else (ad (100 + i - 100)).2) = (ad i).2 := by
      rw [if_neg (by omega), if_neg (by omega), Nat.add_sub_cancel_left]
    dsimp only
    rw [e1, e2]
    exact had i q hq
  · exact vk_R.of (hts (.stringRef "TwoWeavers" 293 "no such row that neither side can weave") (by decide +kernel)) q1
theorem ks_iok : ∀ (t : Nat) (q : vw_C × (Nat → FieldType)), cT[t]? = some q → Cond.instantiable q.1.1 q.1.2.2 ∈ lw_tbl := by
  have h : ∀ t, t < 11 → Cond.instantiable (cT.getD t ((RX0, TX0, 9), tyX0)).1.1 (cT.getD t ((RX0, TX0, 9), tyX0)).1.2.2 ∈ lw_tbl := by decide +kernel
  intro t q hq
  have h1 := h t (List.getElem?_eq_some_iff.mp hq).1
  have he : cT.getD t ((RX0, TX0, 9), tyX0) = q := by rw [List.getD_eq_getElem?_getD, hq]; rfl
  rw [he] at h1
  exact h1
theorem ks_cls (hts : ∀ w ∈ lw_tbl, w.before A s = true) : ∃ (dC : Nat → ClassId) (dI : Nat → Nat → Nat), ∀ (t : Nat) (q : vw_C × (Nat → FieldType)), cT[t]? = some q → u_Kn s q.1.1 q.1.2.1 q.1.2.2 (dC t) (dI t) := by
  have hT : ∀ w ∈ TBL, w.before A s = true := fun w h => hts w (List.mem_filter.mp h).1
  have h0 : ∀ t : Nat, ∃ d : ClassId × (Nat → Nat), ∀ q : vw_C × (Nat → FieldType), cT[t]? = some q → u_Kn s q.1.1 q.1.2.1 q.1.2.2 d.1 d.2 := by
    intro t
    cases e : cT[t]? with
    | none => exact ⟨(0, fun _ => 0), fun q h => by cases h⟩
    | some q =>
      obtain ⟨c, i, h⟩ := u_known hT (cT_ok t q e).1 (hts _ (ks_iok t q e))
      exact ⟨(c, i), fun q' h' => by cases h'; exact h⟩
  obtain ⟨d, hd⟩ := Classical.axiomOfChoice h0
  exact ⟨fun t => (d t).1, fun t => (d t).2, fun t q h => hd t q h⟩
theorem ks_aoin : Cond.arrayOver (.object "TwoWeavers$Loom") ∈ lw_tbl := by decide +kernel
theorem ks_acin : Cond.arrayClass .int ∈ lw_tbl ∧ Cond.arrayClass .long ∈ lw_tbl ∧ Cond.arrayClass .byte ∈ lw_tbl ∧ Cond.arrayClass .boolean ∈ lw_tbl := by decide +kernel
theorem ks_arr (hts : ∀ w ∈ lw_tbl, w.before A s = true) : ∃ ga : Nat → ClassId, ∀ t : Nat, 20 ≤ t → t ≤ 24 → ArrOfT s (ga t) (aT t) ∧ va_RA s (ga t) (aT t) := by
  obtain ⟨c0, k0, p0, a0, b0, e0⟩ := Cond.arrayClass_spec (args := A) (first := s) (o := none) (s := s) (idx := []) (type := .int) (hts _ ks_acin.1)
  obtain ⟨c1, k1, p1, a1, b1, e1⟩ := Cond.arrayClass_spec (args := A) (first := s) (o := none) (s := s) (idx := []) (type := .long) (hts _ ks_acin.2.1)
  obtain ⟨c2, k2, p2, a2, b2, e2⟩ := Cond.arrayClass_spec (args := A) (first := s) (o := none) (s := s) (idx := []) (type := .byte) (hts _ ks_acin.2.2.1)
  obtain ⟨c3, k3, p3, a3, b3, e3⟩ := Cond.arrayClass_spec (args := A) (first := s) (o := none) (s := s) (idx := []) (type := .boolean) (hts _ ks_acin.2.2.2)
  obtain ⟨p4, c4, k4, g4, -, b4, e4, a4⟩ := Cond.arrayOver_spec (args := A) (first := s) (o := none) (s := s) (idx := []) (n := "TwoWeavers$Loom") (hts _ ks_aoin)
  refine ⟨fun t => if t = 20 then c0 else if t = 21 then c1 else if t = 22 then c2 else if t = 23 then c3 else c4, fun t h1 h2 => ?_⟩
  have h3 : t = 20 ∨ t = 21 ∨ t = 22 ∨ t = 23 ∨ t = 24 := by omega
  rcases h3 with rfl | rfl | rfl | rfl | rfl
  · exact ⟨fun n z => ⟨fun k h => (by cases h), k0, b0, p0, e0⟩, a0⟩
  · exact ⟨fun n z => ⟨fun k h => (by cases h), k1, b1, p1, e1⟩, a1⟩
  · exact ⟨fun n z => ⟨fun k h => (by cases h), k2, b2, p2, e2⟩, a2⟩
  · exact ⟨fun n z => ⟨fun k h => (by cases h), k3, b3, p3, e3⟩, a3⟩
  · exact ⟨fun n z => ⟨fun k h => (by cases h), k4, b4, p4, e4⟩, k4, p4, b4, e4, g4, a4⟩
theorem ks_fmt (hn : narrow_1.before A s = true) (hts : ∀ w ∈ lw_tbl, w.before A s = true) {P : Nat → Prop} (hA : ∀ a : Nat, a < s.heap.size → ¬ P a) :
    ∃ gf : Option Nat, va_Z "jdk/internal/util/Preconditions" "SIOOBE_FORMATTER" "Ljava/util/function/BiFunction;" (va_rf gf) P s s.heap := by
  rcases va_Zqof (A := P) (hts (.laysStatic "jdk/internal/util/Preconditions" "SIOOBE_FORMATTER" "Ljava/util/function/BiFunction;") (by decide +kernel)) (hts (.initialized "jdk/internal/util/Preconditions") (by decide +kernel)) (flat_of_before _ hn _ (List.mem_of_getElem? (i := 3) (by decide +kernel))) hA with h | ⟨t, h⟩
  · exact ⟨none, h⟩
  · exact ⟨some t, h⟩
theorem ks_cs (hn : narrow_1.before A s = true) (hts : ∀ w ∈ lw_tbl, w.before A s = true) {P : Nat → Prop} (hA : ∀ a : Nat, a < s.heap.size → ¬ P a) : va_Z "java/lang/String" "COMPACT_STRINGS" "Z" (.int 1) P s s.heap :=
  va_Zof (hts (.laysStatic "java/lang/String" "COMPACT_STRINGS" "Z") (by decide +kernel)) (hts (.initialized "java/lang/String") (by decide +kernel)) (va_eqi (flat_of_before _ hn _ (List.mem_of_getElem? (i := 2) (by decide +kernel)))) hA
theorem ks_u (hn : narrow_1.before A s = true) (hts : ∀ w ∈ lw_tbl, w.before A s = true) {P : Nat → Prop} (hA : ∀ a : Nat, a < s.heap.size → ¬ P a) : vx_Zq Bundle.tN "UNASSIGNED_STACK" Bundle.steD P s s.heap :=
  vx_Zqof (hts (.laysStatic "java/lang/Throwable" "UNASSIGNED_STACK" "[Ljava/lang/StackTraceElement;") (by decide +kernel)) (hts (.initialized "java/lang/Throwable") (by decide +kernel)) (flat_of_before _ hn _ (List.mem_of_getElem? (i := 7) (by decide +kernel))) hA
theorem ks_v (hn : narrow_1.before A s = true) (hts : ∀ w ∈ lw_tbl, w.before A s = true) {P : Nat → Prop} (hA : ∀ a : Nat, a < s.heap.size → ¬ P a) : vx_Zq Bundle.tN "SUPPRESSED_SENTINEL" Bundle.listD P s s.heap :=
  vx_Zqof (hts (.laysStatic "java/lang/Throwable" "SUPPRESSED_SENTINEL" "Ljava/util/List;") (by decide +kernel)) (hts (.initialized "java/lang/Throwable") (by decide +kernel)) (flat_of_before _ hn _ (List.mem_of_getElem? (i := 8) (by decide +kernel))) hA
theorem ks_no (hts : ∀ w ∈ lw_tbl, w.before A s = true) : ∃ c : ClassId, s.vm.findClass "java/util/NoSuchElementException" = some c ∧ s.vm.assignable c c = true := by
  obtain ⟨c, t, h1, h2, h3⟩ := Cond.castable_spec (args := A) (first := s) (o := none) (s := s) (idx := []) (hts (.castable "java/util/NoSuchElementException" "java/util/NoSuchElementException") (by decide +kernel))
  cases h1.symm.trans h2
  exact ⟨c, h1, h3⟩
theorem ks_tb (hts : ∀ w ∈ lw_tbl, w.before A s = true) : ∀ w ∈ TBL, w.before #[] s = true := fun w hw => word_at (State.WarmedH.refl s) (good_of_word (List.mem_filter.mp hw).2) (hts w (List.mem_filter.mp hw).1)
theorem ks_ns (hts : ∀ w ∈ lw_tbl, w.before A s = true) : ∀ w ∈ NST, va_Nw w s := fun w hw => va_Nw.of (by
  have hn := (List.mem_filter.mp hw).2
  cases w <;> first | rfl | (simp [isNest] at hn)) (hts w (List.mem_filter.mp hw).1)
end KST
theorem Kn_start {s : State} {A : Array Value} (l : Launch) (hst : l.stackTraces = false) {b L : Nat} {xs : Nat → Int32} (hts : ∀ w ∈ lw_tbl, w.before A s = true) (hX : va_X b L xs s s.heap) (hbl : b < s.heap.size) (hn : narrow_1.before A s = true) :
    ∃ (dC : Nat → ClassId) (dI : Nat → Nat → Nat) (ga : Nat → ClassId) (gk : Nat → Nat) (gf : Option Nat), Kn (l, s.heap, dC, dI, ga, gk, gf, (b, L, xs)) s := by
  have hA : ∀ a : Nat, a < s.heap.size → ¬ s.heap.size ≤ a := fun a h => Nat.not_le.mpr h
  obtain ⟨dC, dI, h3⟩ := ks_cls hts
  obtain ⟨ga, h4⟩ := ks_arr hts
  obtain ⟨gk, h6, h11⟩ := ks_strs (P := fun a => s.heap.size ≤ a) hn hts hA
  obtain ⟨gf, h8⟩ := ks_fmt (P := fun a => s.heap.size ≤ a) hn hts hA
  exact ⟨dC, dI, ga, gk, gf, ks_tb hts, ks_ns hts, h3, h4, va_AO.of (hts _ ks_aoin), h6, ks_cs hn hts hA, h8, ⟨hX, hbl⟩, h11, ks_u hn hts hA, ks_v hn hts hA, ks_no hts, hst⟩
theorem whole_start {p : Program} {e : Env} {s : State} {m : MethodId} {below : List Frame} {meth : Method} {c : Code} (l : Launch) (hst : l.stackTraces = false) (hnm : meth.name = x.name) {b L : Nat} {xs : Nat → Int32} (hL : L ≤ 3072) (C0 : lw_At p s m meth c b L xs) : W p l e room_1 s m #[Value.ref b] below meth c s.heap [] 0 0 (lw_Z below #[Value.ref b] s) (entryFrame m ([Value.ref b] : List Value).toArray 7) := by
  obtain ⟨hx, hb, hr, hml, hown, hts, hX, hbl, hlocks, hgv⟩ := C0
  rw [Cond.before_and, Bool.and_eq_true] at hgv
  obtain ⟨dC, dI, ga, gk, gf, hK⟩ := Kn_start l hst hts hX hbl hgv.2
  exact law_run (G := (l, s.heap, dC, dI, ga, gk, gf, (b, L, xs))) hx hb hr hml hown hlocks hnm hK rfl hL
