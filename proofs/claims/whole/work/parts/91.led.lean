section LX
variable {p : Program} {l : Launch} {e : Env} {R : Room} {s : State} {m : MethodId} {args : Array Value} {below : List Frame} {meth : Method} {c : Code} {T9 : State} {H : Heap} {locs : List Loc} {cells slots : Nat} {Q : State → Prop}
set_option maxHeartbeats 1000000 in
/-- an exception whose own constructor has its own link to the next one -/
theorem ctorX (X : Stand p l e R s m args below meth c T9 locs cells slots) (hexec : p.tables.exec = Jvm.exec) (htr : e.platform.stackTraces = false) {own cls : String} {names : List String} {ic ix : Nat} {rx : ByteArray}
    (r0 : decode rx 0 = .ok (.aload_n 0, 1)) (r1 : decode rx 1 = .ok (.aload_n 1, 1)) (r2 : decode rx 2 = .ok (.invokespecial ix, 3)) (r5 : decode rx 5 = .ok (.return_, 1))
    (hown : s.vm.findClass own = some m.cls) (hcls : Bundle.fit cls = true) (hnames : ∀ n ∈ names, Bundle.fit n = true)
    (h : ∀ a ∈ Bundle.ownAtomsX own ic cls ix rx names, a.before args s = true)
    (hlocs : ∀ x ∈ locs, ∀ cell, s.heap[x.base]? = some cell → cell.vm.isStatics = false)
    {a : Addr} {cX : ClassId} {kX : Class} (hfoundX : s.vm.findClass cls = some cX) (hkX : s.vm.classes[cX]? = some kX) (hcell : T9.heap[a]? = some (freshCell cX kX)) (hnew : s.heap.size ≤ a)
    {msg : Value} (hmsg : msg.isRef = true)
    {g : JFrame} (hg : g.method = m) (hsize : g.locals.size = c.maxLocals) {rest : List Value} (hstack : g.stack = msg :: .ref a :: .ref a :: rest)
    (hd6 : decode c.code g.pc = .ok (.invokespecial ic, 3))
    (hRframes : names.length + 3 < R.frames) (hRlocals : 2 * g.monitorRoom + ((Value.ref a :: rest).map fun v => v.category).sum + (13 * (names.length + 1) + 42) ≤ R.locals) :
    ∃ (V : State) (ce : Cell) (L : List Loc), Stand p l e R s m args below meth c (V.setCell a ce) (locs ++ L) cells slots ∧ (∀ y ∈ L, y.base = a) ∧ V.heap = T9.heap ∧ ce.cls = cX ∧ ce.vm = .none ∧
      ∀ target, Steps p.tables e below ((V.setCell a ce).setTop { g with stack := .ref a :: rest, pc := g.pc + 3 }) target → Steps p.tables e below (T9.setTop g) target := by
  have howns : e.platform.frameOwnsMonitors = true := by rw [X.admits.platform]
  have hfin : e.platform.finalization = false := by rw [X.admits.platform]
  have hpl : e.platform.magicAccessors = ({} : Platform).magicAccessors := by rw [X.admits.platform]
  have a' : ∀ x, x ∈ Bundle.ownAtomsX own ic cls ix rx names → x.holds args s none s [] = true := fun x hx => h x hx
  obtain ⟨T, Z0, L, -, Y⟩ := ThrowableC.of_atoms (args := args) howns hfin hpl (fun x hx => h x (by simp [Bundle.ownAtomsX, hx]))
  obtain ⟨Z, M, LZ, LM, hnZ⟩ := Init0T.ofS_atoms (args := args) hpl L Y (fun x hx => h x (by simp [Bundle.ownAtomsX, hx]))
  obtain ⟨P1, Ps, hlen, L1, hL, hP1m, hlink1, hlink⟩ := Bundle.chainSX (args := args) hpl hnZ r0 r1 r2 r5 names cls hcls hnames (fun x hx => h x (by simp [Bundle.ownAtomsX, hx]))
  have hfound : s.vm.findClass cls = some P1.m.cls := findClass_of_methodNamed hP1m
  cases Option.some.inj (hfoundX.symm.trans hfound)
  obtain ⟨c1, kX', hc1, hk, hord, -, -, hn6⟩ := Cond.instantiable_spec (a' (.instantiable cls 6) (by simp [Bundle.ownAtomsX]))
  cases Option.some.inj (hc1.symm.trans hfound)
  cases Option.some.inj (hkX.symm.trans hk)
  have hsel0 : selectMethod e.platform s.vm P1.m.cls T.fill0 = .method T.fill0 := by
    obtain ⟨c2, r2, m2, q1, q2, q3, q4, -⟩ := Cond.selects_spec (a' (.selects cls Bundle.tFill0 Bundle.tFill0) (by simp [Bundle.ownAtomsX]))
    cases Option.some.inj (q1.symm.trans hfound)
    cases Option.some.inj (q2.symm.trans (State.methodFound?_of_named Y.fill0 (by decide)))
    cases Option.some.inj (q3.symm.trans Y.fill0)
    rw [Launch.admits_selectMethod X.admits]; exact q4
  have hselF : selectMethod e.platform s.vm P1.m.cls T.fill = .method T.fill := by
    obtain ⟨c2, r2, m2, q1, q2, q3, q4, -⟩ := Cond.selects_spec (a' (.selects cls Bundle.tFill Bundle.tFill) (by simp [Bundle.ownAtomsX]))
    cases Option.some.inj (q1.symm.trans hfound)
    cases Option.some.inj (q2.symm.trans (State.methodFound?_of_named Y.fill (by decide)))
    cases Option.some.inj (q3.symm.trans Y.fill)
    rw [Launch.admits_selectMethod X.admits]; exact q4
  obtain ⟨cellS0, hcS0, hiss⟩ := Y.statics
  obtain ⟨u0, hu0⟩ := Cond.staticRefV Y.unassigned L.unassignedStatic L.statics hcS0 hiss (a' (.isRef (.static Bundle.tN "UNASSIGNED_STACK" Bundle.steD)) (by simp [Bundle.ownAtomsX]))
  obtain ⟨sen, hsen⟩ := Cond.staticRefV Y.sentinel L.sentinelStatic L.statics hcS0 hiss (a' (.isRef (.static Bundle.tN "SUPPRESSED_SENTINEL" Bundle.listD)) (by simp [Bundle.ownAtomsX]))
  obtain ⟨ci198, i198, fB, hk198, hg198, ha198, hsB, -, hnB, htB, hffB⟩ := Cond.ownField (t := .object "java/lang/Object") Y.found L.cls (by decide +kernel) (a' (.fieldLink Bundle.tN 198 Bundle.tN "backtrace" "Ljava/lang/Object;") (by simp [Bundle.ownAtomsX])) (a' (.lays Bundle.tN Bundle.tN "backtrace" "Ljava/lang/Object;") (by simp [Bundle.ownAtomsX])) e.platform hpl
  obtain ⟨cellS, hcS', heS, -, hkeep⟩ := X.same.2.2.2.2.2 T.aS cellS0 hcS0
  have hcellS : T9.heap[T.aS]? = some cellS := hcS'
  have hout' : ∀ i, (⟨T.aS, i⟩ : Loc) ∉ locs := fun i hmem => by
    have := hlocs _ hmem cellS0 hcS0
    rw [hiss] at this; cases this
  have hknownS : cellS.vm ≠ .unknown := by
    rw [heS]; intro hu
    rw [show cellS0.vm = .unknown from hu] at hiss
    cases hiss
  have hneS : T.aS ≠ a := Nat.ne_of_lt (Nat.lt_of_lt_of_le (Array.getElem?_eq_some_iff.mp hcS0).1 hnew)
  obtain ⟨iM, hffM⟩ := Y.msg
  obtain ⟨tyC, dC, hdC, hdnC⟩ := Cond.laysAt hfound hk Y.cause (a' (.lays cls Bundle.tN "cause" "Ljava/lang/Throwable;") (by simp [Bundle.ownAtomsX]))
  obtain ⟨tyS, dS, hdS, hdnS⟩ := Cond.laysAt hfound hk Y.stack (a' (.lays cls Bundle.tN "stackTrace" Bundle.steD) (by simp [Bundle.ownAtomsX]))
  obtain ⟨tyP, dP, hdP, hdnP⟩ := Cond.laysAt hfound hk Y.supp (a' (.lays cls Bundle.tN "suppressedExceptions" Bundle.listD) (by simp [Bundle.ownAtomsX]))
  obtain ⟨tyM, dM, hdM, hdnM⟩ := Cond.laysAt hfound hk hffM (a' (.lays cls Bundle.tN "detailMessage" "Ljava/lang/String;") (by simp [Bundle.ownAtomsX]))
  obtain ⟨tyB, dB, hdB, hdnB⟩ := Cond.laysAt hfound hk hffB (a' (.lays cls Bundle.tN "backtrace" "Ljava/lang/Object;") (by simp [Bundle.ownAtomsX]))
  have bC := Cond.laysApart hdB hdC hdnB hdnC (by rw [hnB, Y.causeName]; decide)
  have bS := Cond.laysApart hdB hdS hdnB hdnS (by rw [hnB, Y.stackName]; decide)
  have bP := Cond.laysApart hdB hdP hdnB hdnP (by rw [hnB, Y.suppName]; decide)
  have hskip : SkipFacts T e.platform s (fun u => u) u0 ((preparedCellV T.toThrowableT (freshCell P1.m.cls kX) a u0 sen).withEntry T9.cur) :=
    ⟨{ ci198 := ci198, i198 := i198, fBack := fB }, ⟨hk198, hg198, ha198, hsB⟩, by
      have := fresh_default (c := P1.m.cls) tyB
      rw [htB] at this
      simpa [preparedCellV, Cell.setSlot, Cell.withEntry, Array.getElem?_setIfInBounds, bC, bS, bP, bC.symm, bS.symm, bP.symm, defaultValue] using this, fun _ _ => rfl⟩
  obtain ⟨tm, methC, cdC, kC, vm₁, hnC, -, -, -, -, -, -, -, hW₁, st1⟩ := Steps.initColdS (tb := p.tables) (e := e) (below := below) (s := s) (U := T9) X.here hexec X.warmed hpl hown (t := Bundle.initS cls) rfl rfl (Bundle.fit_spec hcls).2
    (a' (.methodLink own ic (Bundle.initS cls)) (by simp [Bundle.ownAtomsX])) (h (.instanceMethod (Bundle.initS cls)) (by cases names <;> simp [Bundle.ownAtomsX, Bundle.chainSAtomsX, Bundle.passSAtoms])) (bytes := rx) (maxL := 2) (h (.code (Bundle.initS cls) rx 2 none) (by cases names <;> simp [Bundle.ownAtomsX, Bundle.chainSAtomsX, Bundle.passSAtoms]))
    (f := g) hg (a := a) (msg := msg) (rest := .ref a :: rest) hstack hd6
  cases Option.some.inj (hnC.symm.trans hP1m)
  have X₁ := X.noted hW₁
  obtain ⟨vm₂, X₂, st2⟩ := X₁.ctorMessageOffV hexec (g := { g with stack := .ref a :: rest }) hg hsize T L Z LZ M LM (P1 :: Ps)
    (fun P hP => by rcases List.mem_cons.mp hP with rfl | hP; exact L1; exact hL P hP) ⟨hlink1, hlink⟩ (u0 := u0) (sen := sen) (self := a) hmsg (cell := freshCell P1.m.cls kX) (cellS := cellS)
    hcell (fun _ => by simp) (by simp) rfl rfl hsel0 hselF hcellS hneS hknownS (by rw [hkeep _ (hout' _)]; exact hu0) (by rw [hkeep _ (hout' _)]; exact hsen)
    (Takes.of_laid hk hord tyC (by rw [Y.causeType]; rfl)) (Takes.of_laid hk hord tyS (by rw [Y.stackType]; exact fits_refV_array _ u0)) (Takes.of_laid hk hord tyP (by rw [Y.suppType]; exact fits_refV_object _ sen))
    (Takes.of_laid hk hord tyM (by rw [Y.msgType]; exact fits_refV_object _ ⟨msg, hmsg⟩)) Y.objLocals hskip htr [] hd6
    (by simp only [List.length_cons, hlen]; omega) (by simp only [List.length_cons, hlen]; exact hRlocals)
  refine ⟨(T9.setVm vm₁).setVm vm₂, _, _, X₂, fun y hy => ?_, rfl, rfl, rfl, fun target hwalk => st1 _ (fun acts => ?_)⟩
  · simp only [List.mem_cons, List.not_mem_nil, or_false] at hy
    rcases hy with rfl | rfl | rfl | rfl | rfl <;> rfl
  · rw [doInvoke_state]
    exact st2 _ hwalk
theorem athrowW {ls : Array Slot} {rest : List Value} {cc : ByteArray} {pc : Nat} (hexec : p.tables.exec = Jvm.exec) (hb : c.code = cc) {q : Addr} (hdg : decode cc pc = .ok (.athrow, 1)) (k : vx_W p l e R s m args below meth c H locs cells slots Q (F0 m pc ls rest) q) : W p l e R s m args below meth c H locs cells slots Q (F0 m pc ls (.ref q :: rest)) := by
  intro T hT X
  obtain ⟨t, st, hq⟩ := k T hT X
  refine ⟨t, ?_, hq⟩
  have hdg' : decode c.code pc = .ok (.athrow, 1) := by rw [hb]; exact hdg
  jvm_step X.here [X.here.top, hexec, hdg', Op.athrow.wp_sem]
  exact st
def atX (own : String) (ic : Nat) (X : String) (ix : Nat) (rx : ByteArray) (names : List String) : List Cond := (Bundle.ownAtomsX own ic X ix rx names).filter vx_no
theorem ownX {args : Array Value} {s : State} {L : List Cond} (h1 : ∀ w ∈ L.filter vx_no, w.before args s = true)
    (h2 : (Cond.isRef (.static Bundle.tN "UNASSIGNED_STACK" Bundle.steD)).before args s = true) (h3 : (Cond.isRef (.static Bundle.tN "SUPPRESSED_SENTINEL" Bundle.listD)).before args s = true)
    (h4 : (Cond.laysStatic Bundle.tN "UNASSIGNED_STACK" Bundle.steD).before args s = true) (h5 : (Cond.laysStatic Bundle.tN "SUPPRESSED_SENTINEL" Bundle.listD).before args s = true) : ∀ w ∈ L, w.before args s = true := vx_own h1 h2 h3 h4 h5
/-- new; dup; ldc_w; invokespecial; athrow, out of the method -/
theorem throwX {ls : Array Slot} {rest : List Value} {cc : ByteArray} {pc : Nat} {mc ms : Nat} {free : Addr → Prop} {Qc : Array Value → State → Outcome → State → Prop} {XC : String → State → State → Prop} (hexec : p.tables.exec = Jvm.exec) (hb : c.code = cc) (hl : l.stackTraces = false) {own cls text : String} {names : List String} {ik is ic ix sa : Nat} {rx : ByteArray} {A : Nat → Prop}
    (r0 : decode rx 0 = .ok (.aload_n 0, 1)) (r1 : decode rx 1 = .ok (.aload_n 1, 1)) (r2 : decode rx 2 = .ok (.invokespecial ix, 3)) (r5 : decode rx 5 = .ok (.return_, 1))
    (hown : s.vm.findClass own = some m.cls) (hcls : Bundle.fit cls = true) (hnames : ∀ n ∈ names, Bundle.fit n = true)
    (hk : (Cond.classLink own ik cls).before args s = true) (hini : (Cond.initialized cls).before args s = true) (hstr : vk_R own is text sa s) (hat : ∀ w ∈ atX own ic cls ix rx names, w.before args s = true)
    (hgood : ∀ w ∈ Cond.classLink own ik cls :: Cond.initialized cls :: atX own ic cls ix rx names, vx_ot w = true)
    (hU : vx_Zq Bundle.tN "UNASSIGNED_STACK" Bundle.steD A s s.heap) (hN : vx_Zq Bundle.tN "SUPPRESSED_SENTINEL" Bundle.listD A s s.heap) (hS : va_S A s.heap H locs) (hsize : ls.size = c.maxLocals)
    (d0 : decode cc pc = .ok (.new ik, 3)) (d3 : decode cc (pc + 3) = .ok (.dup, 1)) (d4 : decode cc (pc + 4) = .ok (.ldc_w is, 3)) (d7 : decode cc (pc + 7) = .ok (.invokespecial ic, 3)) (d10 : decode cc (pc + 10) = .ok (.athrow, 1))
    (hout : ∀ x ∈ c.exceptionTable.toList, covers x (pc + 10) = false)
    (hRframes : names.length + 3 < R.frames) (hRlocals : (rest.map fun v => v.category).sum + (13 * (names.length + 1) + 43) ≤ R.locals) (hRcells : cells + 1 ≤ R.cells) (hRslots : slots + 6 ≤ R.slots) (hlocks : meth.locks = false)
    (hx : ∀ t : State, s.vm.Alike t.vm → t.heap.size = H.size + 1 → (∀ q : Nat, q < H.size → t.heap[q]? = H[q]?) → XC cls s t)
    (hf : ∀ z ∈ locs, free z.base) (hc : cells + 1 ≤ mc) (hs : slots + 6 ≤ ms) :
    W p l e R s m args below meth c H locs cells slots (vx_MQ below Qc XC args s mc ms free) (F0 m pc ls rest) := by
  intro T hT X
  subst hT
  have htr : e.platform.stackTraces = false := (show e.platform.stackTraces = l.stackTraces by rw [X.admits.platform]).trans hl
  have Y := vx_rebase X (R' := { frames := R.frames, locals := R.locals, cells := 1, slots := 6 }) (Nat.le_refl _) (Nat.le_refl _) hRcells hRslots
  obtain ⟨s', hA⟩ : ∃ z, z = (T.setVm s.vm).setFrames (.invoking m args :: below) := ⟨_, rfl⟩
  rw [← hA] at Y
  have hvm : s'.vm = s.vm := by rw [hA]; rfl
  have hhp : s'.heap = T.heap := by rw [hA]; rfl
  have hW0 : s.WarmedH s'.vm := by rw [hvm]; exact State.WarmedH.refl s
  have hat' : ∀ w ∈ atX own ic cls ix rx names, w.before args s' = true := fun w hw => vx_ot_at hW0 hvm.symm (hgood w (List.mem_cons_of_mem _ (List.mem_cons_of_mem _ hw))) (hat w hw)
  have hk' : (Cond.classLink own ik cls).before args s' = true := vx_ot_at hW0 hvm.symm (hgood _ List.mem_cons_self) hk
  have hini' : (Cond.initialized cls).before args s' = true := vx_ot_at hW0 hvm.symm (hgood _ (List.mem_cons_of_mem _ List.mem_cons_self)) hini
  have hU' : vx_Zq Bundle.tN "UNASSIGNED_STACK" Bundle.steD A s' s'.heap := by rw [hhp]; exact vx_Zq.moved hW0.alike (hU.kept hS.2.1)
  have hN' : vx_Zq Bundle.tN "SUPPRESSED_SENTINEL" Bundle.listD A s' s'.heap := by rw [hhp]; exact vx_Zq.moved hW0.alike (hN.kept hS.2.1)
  have h : ∀ w ∈ Bundle.ownAtomsX own ic cls ix rx names, w.before args s' = true := ownX hat' (vx_isRefq hU'.1) (vx_isRefq hN'.1) hU'.2.word hN'.2.word
  have hown' : s'.vm.findClass own = some m.cls := by rw [hvm]; exact hown
  have hins : (Cond.instantiable cls 6).before args s' = true := h _ (by simp [Bundle.ownAtomsX])
  obtain ⟨vm₁, cX, kX, hfX, hkX, -, -, X₁, st1⟩ := Y.newCold hexec (own := own) (C := cls) (index := ik) (n := 6) hown' hk' hins hini'
    (g := F0 m pc ls rest) rfl (by rw [hb]; exact d0) (Nat.le_refl _) (Nat.le_refl _)
  generalize hT1 : (T.setVm vm₁).pushCell { cls := cX, slots := kX.instanceTypes.map defaultValue, vm := .none } = T1 at X₁ st1
  have hcat : (Value.ref T.heap.size).category = 1 := rfl
  have hcellA : T1.heap[T.heap.size]? = some (freshCell cX kX) := by rw [← hT1]; exact State.heap_pushCell_size _ _
  have hsz1 : T1.heap.size = T.heap.size + 1 := by rw [← hT1]; exact Array.size_push _
  have d3' : decode c.code (pc + 3) = .ok (.dup, 1) := by rw [hb]; exact d3
  have d4' : decode c.code (pc + 4) = .ok (.ldc_w is, 3) := by rw [hb]; exact d4
  have hstr' : vk_R own is text sa s' := vk_R.warm hW0 hstr
  obtain ⟨V, ce, L, Z, hL, hVh, hcl9, hvm9, st⟩ := ctorX X₁ hexec htr (own := own) (cls := cls) (names := names) (ic := ic) r0 r1 r2 r5 hown' hcls hnames h (fun x hx => nomatch hx) hfX hkX hcellA (by rw [hhp]; exact Nat.le_refl _) (msg := .ref sa) rfl
    (g := { method := m, pc := pc + 7, locals := ls, stack := .ref sa :: .ref T.heap.size :: .ref T.heap.size :: rest, locked := none }) rfl hsize (rest := rest) rfl
    (by rw [hb]; exact d7) hRframes (by simp only [List.map_cons, List.sum_cons, hcat]; omega)
  have hlt : T.heap.size < V.heap.size := by rw [hVh, hsz1]; exact Nat.lt_succ_self _
  have Z0 := Stand.forget (locs := []) Z (fun y hy => by rw [hL y hy, hhp]; exact Nat.le_refl _)
  obtain ⟨f1, f2⟩ := vx_frame Z0.same
  rw [hhp] at f1 f2
  have hclS : s.vm.findClass cls = some ce.cls := by
    rw [hcl9]
    rw [hvm] at hfX
    exact hfX
  have hh : (V.setCell T.heap.size ce).heap[T.heap.size]? = some ce := heapAt_setCell_self (s := V) ce hlt
  have hsz : (V.setCell T.heap.size ce).heap.size = T.heap.size + 1 := by
    rw [← hsz1, ← hVh]
    simp [State.setCell]
  have X6 : Stand p l e R s m args below meth c (V.setCell T.heap.size ce) locs (cells + 1) (slots + 6) := by
    subst hA
    refine { admits := X.admits, cas := X.cas, clock := X.clock, frames := X.frames, room := X.room, hears := X.hears, method := X.method, code := X.code, here := Z0.here, tail := Z0.tail, warmed := State.WarmedH.trans hW0 Z0.warmed, limits := Z0.limits.trans (Y.limits.symm.trans X.limits), bytes := Z0.bytes.trans (Y.bytes.symm.trans X.bytes), same := ?_ }
    obtain ⟨e1, e2⟩ := Z0.same
    rw [State.setFrames_setFrames] at e1
    have h2 : (T.setVm s.vm).sameButNew ((V.setCell T.heap.size ce).setVm s.vm) [] (0 + 1) (0 + 6) := ⟨e1, e2⟩
    have h3 := X.same.trans h2
    rw [List.append_nil] at h3
    exact h3.mono (by omega) (by omega)
  obtain ⟨t, a1, b1⟩ := athrowW (rest := rest) hexec hb d10 (vx_out (p := p) (l := l) (e := e) (R := R) (below := below) (Qc := Qc) (XC := XC) (args := args) (free := free) (mc := mc) (ms := ms) (ls := ls) (rest := rest) hout hlocks hh hvm9 hclS (fun t ht ha => hx t ha (by rw [ht]; exact hsz) (fun q hq => by rw [ht]; exact f2 q hq (fun z hz => nomatch hz))) hf hc hs) (V.setCell T.heap.size ce) rfl X6
  refine ⟨t, st1 _ ?_, b1⟩
  show Steps p.tables e below (T1.setTop { method := m, pc := pc + 3, locals := ls, stack := .ref T.heap.size :: rest, locked := none }) _
  jvm_step X₁.here [X₁.here.top, hexec, d3', Value.category]
  refine X₁.ldcStringW hexec (own := own) (text := text) (index := is) (a := sa) hown' hstr'.1 hstr'.2
    (g := { method := m, pc := pc + 4, locals := ls, stack := .ref T.heap.size :: .ref T.heap.size :: rest, locked := none }) rfl d4' _ (st _ ?_)
  show Steps p.tables e below ((V.setCell T.heap.size ce).setTop { method := m, pc := pc + 10, locals := ls, stack := .ref T.heap.size :: rest, locked := none }) _
  exact a1
end LX

section LB
variable {G : qG} {K : qK}
theorem entryL {vs : List Value} (hlen : (argE vs).length ≤ kL K) (m : MethodId) : ∃ ls, entryFrame m (vs.map (cv G)).toArray (kL K) = F0 m 0 ls [] ∧ Lk G K (argE vs) ls := by
  have hle : (lg_sl (vs.map (cv G))).length ≤ kL K := by rw [← argE_len (G := G)]; exact hlen
  have hen := lv_entry (vs.map (cv G)) hle
  rw [lg_entry_eq]
  generalize hls : ((lg_sl (vs.map (cv G)) ++ List.replicate (kL K - (lg_sl (vs.map (cv G))).length) Slot.unset).toArray) = ls at hen ⊢
  exact ⟨ls, rfl, hen.1, hen.2.1, fun i w hw hne => by
    have h1 := argE_at (G := G) vs i w hw hne
    rw [← hls]
    simp only [List.getElem?_toArray]
    rw [List.getElem?_append_left (List.getElem?_eq_some_iff.mp h1).1]
    exact h1⟩
/-- a frame whose end is a return of v -/
theorem mxOf {p : Program} {e : Env} {s : State} {m : MethodId} {args : Array Value} {below : List Frame} {meth : Method} {c : Code} {s₁ : State} {ws : List Cond} {M M' : qM} {v : Option Value} (hmono : mN M ≤ mN M' ∧ mU M ≤ mU M') (B : BodyLoose p (gl G) (kY K) (headSpec ws (rmK K M M')) (kC K) (kL K) (kT K) e s m args below meth c s₁) (hml : c.maxLocals = kL K) (hK : Kn G s) :
    Mx G K (fun H locs cells slots g => W p (gl G) e (rmK K M M') s m args below meth c H locs cells slots (MQ below (QC G v M') args s (mN M' - mN M) (mU M' - mU M) (fun q => gB G ≤ q)) g) m (mN M, mU M) v M' := by
  have hown : s.vm.findClass (kY K).cls = some m.cls := findClass_of_methodNamed B.named
  refine ⟨p, e, rmK K M M', s, args, below, meth, c, _, rfl, B.exec, B.bytes, hml, hown, hK, (name_of_methodNamed B.named B.method).1, rfl, rfl, Nat.le_of_eq (Nat.sub_add_cancel hmono.1).symm, Nat.le_of_eq (Nat.sub_add_cancel hmono.2).symm, ?_⟩
  intro pc ls' H locs cells slots hrt o
  have ec : cells = mN M' - mN M := by have := o.2.2.1; omega
  have es : slots = mU M' - mU M := by have := o.2.2.2; omega
  subst ec; subst es
  have hq : ∀ t : State, t.heap = H → s.WarmedH t.vm → QC G v M' args s (.returned v) t := fun t ht _ => ⟨rfl, by rw [ht]; exact o.1⟩
  match v, hrt, hq with
  | none, hrt, hq => exact W.vret B.exec B.bytes (B.returns.trans hrt.2) hq o.2.1 hrt.1 B.notSynchronized
  | some (.int x), hrt, hq =>
    rcases hrt.2 with hT | ⟨ty, hT, hz⟩
    · exact W.iret B.exec B.bytes (B.returns.trans hT) hq o.2.1 hrt.1 B.notSynchronized
    · exact W.zret B.exec B.bytes (B.returns.trans hT) hz hq o.2.1 hrt.1 B.notSynchronized
  | some (.long x), hrt, hq => exact W.lret B.exec B.bytes (B.returns.trans hrt.2) hq o.2.1 hrt.1 B.notSynchronized
  | some (.float _), hrt, hq => exact hrt.elim
  | some (.double _), hrt, hq => exact hrt.elim
  | some .null, hrt, hq => exact hrt.elim
  | some (.ref _), hrt, hq => exact hrt.elim
  | some (.retAddr _), hrt, hq => exact hrt.elim
theorem bodyOf {pn : Nat} {f : Sv} (h : XS G K 0 pn 0 0 f) {vs : List Value} {M M' : qM} {v : Option Value} {env' : qE} (hlen : (argE vs).length ≤ kL K) (hfe : f (argE vs) M = some (.inr v, env', M')) {ws : List Cond} {p : Program} {e : Env} {s : State} {m : MethodId} {args : Array Value} {below : List Frame} {meth : Method} {c : Code} {s₁ : State} (B : BodyLoose p (gl G) (kY K) (headSpec ws (rmK K M M')) (kC K) (kL K) (kT K) e s m args below meth c s₁) (hml : c.maxLocals = kL K) (hv : PC G vs M args s) :
    W p (gl G) e (rmK K M M') s m args below meth c s.heap [] 0 0 (MQ below (QC G v M') args s (mN M' - mN M) (mU M' - mU M) (fun q => gB G ≤ q)) (entryFrame m args (kL K)) := by
  obtain ⟨rfl, hK, hr⟩ := hv
  obtain ⟨ls, he, hLk⟩ := entryL (G := G) hlen m
  rw [he]
  exact h.2 _ m (mN M, mU M) v M' (mxOf (h.1 _ _ _ _ _ hfe) B hml hK) (argE vs) M (.inr v) env' M' hfe (Nat.le_refl _) (Nat.le_refl _) (fun v' hv' => by cases hv'; exact ⟨rfl, rfl⟩) ls s.heap [] 0 0 hLk ⟨hr, (fun q hq => by cases hq), (Nat.zero_add _), (Nat.zero_add _)⟩ (fun t hex => by cases hex)
theorem fnOf_inv {n : Nat} {f : Sv} {vs : List Value} {M M' : qM} {v : Option Value} (hF : fnOf n f vs M = some (v, M')) : (argE vs).length = n ∧ ∃ env', f (argE vs) M = some (.inr v, env', M') := by
  unfold fnOf at hF
  split at hF
  · rename_i hlen
    refine ⟨hlen, ?_⟩
    split at hF
    · rename_i v' env' m' hh; cases hF; exact ⟨env', hh⟩
    · cases hF
  · cases hF
theorem ck_ofP {n pn : Nat} {f : Sv} (hy : plainName (kY K).cls = true) (hn : n ≤ kL K) (h : XS G K 0 pn 0 0 f) : CK G K (fnOf n f) := by
  intro vs M v M' hF
  obtain ⟨hlen, env', hfe⟩ := fnOf_inv hF
  have hmono := h.1 _ _ _ _ _ hfe
  exact ⟨hmono.1, hmono.2, Met.ofW (cc := kC K) (maxL := kL K) (ret := kT K) hy rfl (fun p e s m args below meth c s₁ B hml hv => bodyOf h (by omega) hfe B hml hv)⟩
theorem ck_ofT {n pn : Nat} {f : Sv} {hh : List (Nat × Nat × Nat × Nat)} (hy : plainName (kY K).cls = true) (hn : n ≤ kL K) (h : XS G K 0 pn 0 0 f) : CKW G K hh (fnOf n f) := by
  intro vs M v M' hF
  obtain ⟨hlen, env', hfe⟩ := fnOf_inv hF
  have hmono := h.1 _ _ _ _ _ hfe
  exact ⟨hmono.1, hmono.2, va_MetW (cc := kC K) (maxL := kL K) (ret := kT K) hy rfl (fun p e s m args below meth c s₁ B hml hv => bodyOf h (by omega) hfe B hml hv)⟩
end LB
theorem mX8_288 : lkM RX8 288 yX4_allKinds := Or.inl (tb5 190 (by decide +kernel) rfl)
def kX8_led : qK := (yX8_led, cX8_led, 5, some .int, 6, 113)
def kL_led : qK := (yL_led, cL_led, 4, some .int, 7, 140)
noncomputable def b_X8_led : Sv := (sScope 2 (sSeq (sSetI 2 (tern (b1 i2z (gI 9 5 (eR 0))) (b2 (fun x y => x &&& y) (b2 (fun x y => x &&& y) (toI (cFv 5 f_X4_allKinds (vA vN (gR 9 3 (eR 0))))) (b2 (fun x y => x ^^^ y) (toI (cFv 4 f_X3_choices (vI (vA (vA vN (gR 9 4 (eR 0))) (gR 9 3 (eR 0))) (eK (0 : Int32))))) (eK (-1 : Int32)))) (b2 (fun x y => x ^^^ y) (toI (cFv 4 f_X3_choices (vI (vA (vA vN (gR 9 4 (eR 0))) (gR 9 3 (eR 0))) (eK (1 : Int32))))) (eK (-1 : Int32)))) (eK (0 : Int32)))) (sSeq (sSetI 3 (eK (0 : Int32))) (sScope 4 (sSeq (sSetI 4 (eK (0 : Int32))) (sLoop (b2 iLt (eI 4) (gI 5 5 (gR 9 3 (eR 0)))) (sIf (b1 i2z (toI (cFs f_X8_hasBit (vI (vI vN (eI 2)) (eI 4))))) (sSeq (sIf (b2 iEq (eI 3) (eI 1)) (sRetI (eI 4)) sSkip) (sInc 3 (1))) sSkip) (sInc 4 (1))))))))
set_option maxRecDepth 100000 in
theorem i_X8_led {G : qG} : XS G kX8_led 0 92 0 0 b_X8_led := (yScope (ySeq (y_istore_n (i := 2) (xTern2 (xc1 (x_gI (x_aload_n (i := 0) dX8_led_0 rfl) dX8_led_1 fX8_38 rfl) (nz_eq (tgt := 47) dX8_led_4 rfl)) (xGo (p2 := 48) (x2 (x2 (x_toI (x_callV (t := 5) k_X4_allKinds (xvA xvN (x_gR (x_aload_n (i := 0) dX8_led_7 rfl) dX8_led_8 fX8_27 rfl)) dX8_led_11 mX8_288 lc_X4_allKinds im_X4_allKinds se_X4_allKinds (rcX4 rfl) (by decide) (by decide))) wI (x2 (x_toI (x_callV (t := 4) k_X3_choices (xvI (xvA (xvA xvN (x_gR (x_aload_n (i := 0) dX8_led_14 rfl) dX8_led_15 fX8_34 rfl)) (x_gR (x_aload_n (i := 0) dX8_led_18 rfl) dX8_led_19 fX8_27 rfl)) (x_iconst (v := 0) dX8_led_22 ci_0)) dX8_led_23 mX8_169 lc_X3_choices im_X3_choices se_X3_choices (rcX3 rfl) (by decide) (by decide))) wI (x_iconst (v := -1) dX8_led_26 ci_m1) (o_ixor dX8_led_27)) (o_iand dX8_led_28)) wI (x2 (x_toI (x_callV (t := 4) k_X3_choices (xvI (xvA (xvA xvN (x_gR (x_aload_n (i := 0) dX8_led_29 rfl) dX8_led_30 fX8_34 rfl)) (x_gR (x_aload_n (i := 0) dX8_led_33 rfl) dX8_led_34 fX8_27 rfl)) (x_iconst (v := 1) dX8_led_37 ci_1)) dX8_led_38 mX8_169 lc_X3_choices im_X3_choices se_X3_choices (rcX3 rfl) (by decide) (by decide))) wI (x_iconst (v := -1) dX8_led_41 ci_m1) (o_ixor dX8_led_42)) (o_iand dX8_led_43)) dX8_led_44 rfl) (x_iconst (v := 0) dX8_led_47 ci_0)) dX8_led_48 rfl (by decide) (by decide)) (ySeq (y_istore_n (i := 3) (x_iconst (v := 0) dX8_led_49 ci_0) dX8_led_50 rfl (by decide) (by decide)) (yScope (ySeq (y_istore (x_iconst (v := 0) dX8_led_51 ci_0) dX8_led_52 (by decide) (by decide)) (yLoop (q1 := 0) (q2 := 0) (xc2 (x_iload dX8_led_54) wI (x_gI (x_gR (x_aload_n (i := 0) dX8_led_56 rfl) dX8_led_57 fX8_27 rfl) dX8_led_60 fX8_101 rfl) (n_ge (tgt := 92) dX8_led_63 rfl)) (by decide) (yIf (xc1 (x_toI (x_callS k_X8_hasBit (xvI (xvI xvN (x_iload_n (i := 2) dX8_led_66 rfl)) (x_iload dX8_led_67)) dX8_led_69 mX8_133 lc_X8_hasBit st_X8_hasBit (by decide) (by decide))) (nz_eq (tgt := 86) dX8_led_72 rfl)) (by decide) (ySeq (yIf (xc2 (x_iload_n (i := 3) dX8_led_75 rfl) wI (x_iload_n (i := 1) dX8_led_76 rfl) (n_ne (tgt := 83) dX8_led_77 rfl)) (by decide) (y_retI (x_iload dX8_led_80) dX8_led_82 rfl (by decide)) ySkip) (y_iinc dX8_led_83 (by decide))) ySkip) (yGoto (pn := 54) (y_iinc dX8_led_86 (by decide)) dX8_led_89 rfl)))))))
noncomputable def f_X8_led : Fn := fnOf 2 b_X8_led
theorem k_X8_led {G : qG} : CK G kX8_led f_X8_led := ck_ofP (by decide +kernel) (by decide) i_X8_led
theorem lc_X8_led : lkC kX8_led 1 := ⟨tb1 1 (by decide +kernel) rfl, tb5 189 (by decide +kernel) rfl, by decide, by decide, by decide +kernel⟩
theorem im_X8_led : Cond.instanceMethod (kY kX8_led) ∈ TBL := tb5 187 (by decide +kernel) rfl
theorem se_X8_led : Cond.selects (kY kX8_led).cls (kY kX8_led) (kY kX8_led) ∈ TBL := tb5 188 (by decide +kernel) rfl
theorem mL_7 : lkM RL 7 yX8_led := Or.inl (tb5 186 (by decide +kernel) rfl)
section LC
variable {G : qG}
theorem callPre' {K' : qK} {M M' : qM} {R : Room} {s : State} {args : Array Value} {n : Nat} (hK : Kn G s) (hc : lkC K' n) (hfr : kF K' + 1 ≤ R.frames) (hlo : 8 + (kL K' + 11) + kO K' ≤ R.locals) :
    (rmK K' M M').cells = mN M' - mN M ∧ (rmK K' M M').slots = mU M' - mU M ∧ (rmK K' M M').frames + 1 ≤ R.frames ∧ 8 + (kL K' + 11) + (rmK K' M M').locals ≤ R.locals ∧ (∀ w ∈ wsK K', ∀ (a' : Array Value) (U : State), s.WarmedH U.vm → w.before a' U = true) ∧ Cond.code (kY K') (kC K') (kL K') (kT K') ∈ wsK K' ∧ (Cond.code (kY K') (kC K') (kL K') (kT K')).before args s = true ∧ (Cond.initialized (kY K').cls).before args s = true ∧ ((kY K').cls ≠ "java/lang/invoke/MethodHandle" ∧ (kY K').cls ≠ "java/lang/invoke/VarHandle") ∧ (∀ sig, parseMethodDescriptor (kY K').desc = some sig → n = sig.parameters.length) := by
  obtain ⟨c1, c2, c3, c4, c5⟩ := hc
  refine ⟨rfl, rfl, hfr, hlo, fun w hw a' U hW => ?_, List.mem_cons_self, hK.word c2 args, hK.word c1 args, ⟨c3, c4⟩, fun sig h => ?_⟩
  · have hw' : w ∈ TBL := by
      rcases List.mem_cons.mp hw with h | h
      · rw [h]; exact c2
      · exact h
    exact (hK.moved hW).word hw' a'
  · rw [h] at c5; exact (Option.some.inj c5).symm
end LC
def NSE : String := "java/util/NoSuchElementException"
def nsn : List String := ["java/lang/RuntimeException", "java/lang/Exception"]
def nsx : ByteArray := prog_26_method_4_code
def ledI : List Nat := [149, 1304, 1313, 1315, 1318, 1320, 1305, 1306, 159, 160, 1307, 1312, 1316, 1336, 1294, 1337, 1296, 1338, 1298, 1308, 1310, 1300, 1332, 1333, 1335, 1300, 1323, 1324, 1325, 1326, 1286, 1326, 1327, 1328, 1329, 1288, 1329, 1330, 1331, 1332, 1290, 1322, 1283, 1284, 1291, 1292, 1293, 1295, 1297, 1299, 1303, 1302, 1301]
set_option maxRecDepth 100000 in
theorem led_w1 : atX "TwoWeavers" 295 NSE 13 nsx nsn = ledI.filterMap (fun i => lw_tbl[i]?) := rfl
theorem led_w2 : (Cond.classLink "TwoWeavers" 291 NSE :: Cond.initialized NSE :: atX "TwoWeavers" 295 NSE 13 nsx nsn).all vx_ot = true := by decide +kernel
theorem led_w3 : (atX "TwoWeavers" 295 NSE 13 nsx nsn).all (fun w => goodWord w || isNest w || decide (w = Cond.castable NSE NSE)) = true := by decide +kernel
theorem led_w4 {w : Cond} (h : w ∈ atX "TwoWeavers" 295 NSE 13 nsx nsn) : w ∈ TBL ∨ w ∈ NST ∨ w = Cond.castable NSE NSE := by
  have h3 := List.all_eq_true.mp led_w3 w h
  rw [led_w1] at h
  obtain ⟨i, -, hi⟩ := List.mem_filterMap.mp h
  have hm : w ∈ lw_tbl := List.mem_of_getElem? hi
  simp only [Bool.or_eq_true, decide_eq_true_eq] at h3
  rcases h3 with (h3 | h3) | h3
  · exact Or.inl (List.mem_filter.mpr ⟨hm, h3⟩)
  · exact Or.inr (Or.inl (List.mem_filter.mpr ⟨hm, h3⟩))
  · exact Or.inr (Or.inr h3)
theorem castNSE {G : qG} {s : State} (hK : Kn G s) (args : Array Value) : (Cond.castable NSE NSE).before args s = true := by
  obtain ⟨-, -, -, ⟨k, k1, k2⟩, -⟩ := hK.2.2.2.2.2.2.2.2.2
  have k1' : s.vm.findClass NSE = some k := k1
  simp only [Cond.before, Cond.holds, Cond.value]
  simp [k1', k2]
theorem led_at {G : qG} {s : State} (hK : Kn G s) (args : Array Value) : ∀ w ∈ atX "TwoWeavers" 295 NSE 13 nsx nsn, w.before args s = true := by
  intro w hw
  rcases led_w4 hw with h | h | h
  · exact hK.word h args
  · have hn := (List.mem_filter.mp h).2
    have hz := hK.2.1 w h
    cases w <;> first | exact va_Nw.use rfl hz | (simp [isNest] at hn)
  · rw [h]; exact castNSE hK args
def thr (M : qM) : qM := ((mN M + 1, mU M + 6), M.2)
theorem rp_thr {G : qG} {M : qM} {H H' : Heap} (h : rp G M H) (hs : H'.size = H.size + 1) (hq : ∀ q : Nat, q < H.size → H'[q]? = H[q]?) : rp G (thr M) H' := by
  obtain ⟨h1, h2, h3, h4⟩ := h
  refine ⟨by rw [hs, h1]; rfl, (Nat.le_succ_of_le h2 : gB G ≤ mN M + 1), fun q hq' => ?_, fun a ha => ?_⟩
  · rw [hq q (by omega)]; exact h3 q hq'
  · obtain ⟨g1, g2, g3⟩ := h4 a ha
    exact ⟨g1, Nat.lt_succ_of_lt g2, g3.kept rfl (fun ty j => rfl) (hq a (by omega))⟩
set_option maxRecDepth 100000 in
theorem led_throws {G : qG} {vs : List Value} {M M' : qM} {env' : qE} (hlen : (argE vs).length = 2) (hfe : b_X8_led (argE vs) M = some (.inl 0, env', M')) :
    vx_Met (gl G) (kY kX8_led) (wsK kX8_led) (rmK kX8_led M (thr M')) (PC G vs M) (fun _ _ _ _ => False) (fun E _ t => E = NSE ∧ rp G (thr M') t.heap) (mN (thr M') - mN M) (mU (thr M') - mU M) (fun q => gB G ≤ q) := by
  have hmono := (i_X8_led (G := G)).1 _ _ _ _ _ hfe
  refine vx_ofW (cc := kC kX8_led) (maxL := kL kX8_led) (ret := kT kX8_led) (by decide +kernel) rfl ?_
  intro p e s m args below meth c s₁ B hml hout hv
  obtain ⟨rfl, hK, hr⟩ := hv
  obtain ⟨ls, he, hLk⟩ := entryL (G := G) (K := kX8_led) (vs := vs) (by rw [hlen]; decide) m
  rw [he]
  have hown : s.vm.findClass "TwoWeavers" = some m.cls := findClass_of_methodNamed B.named
  have hm : Mx G kX8_led (fun H locs cells slots g => W p (gl G) e (rmK kX8_led M (thr M')) s m (vs.map (cv G)).toArray below meth c H locs cells slots (vx_MQ below (fun _ _ _ _ => False) (fun E _ t => E = NSE ∧ rp G (thr M') t.heap) (vs.map (cv G)).toArray s (mN (thr M') - mN M) (mU (thr M') - mU M) (fun q => gB G ≤ q)) g) m (mN M, mU M) (some .null) (thr M') := by
    refine ⟨p, e, rmK kX8_led M (thr M'), s, _, below, meth, c, _, rfl, B.exec, B.bytes, hml, hown, hK, (name_of_methodNamed B.named B.method).1, rfl, rfl, ?_, ?_, fun _ _ _ _ _ _ hrt _ => hrt.elim⟩
    · show mN M' + 1 ≤ (mN M' + 1 - mN M) + mN M
      omega
    · show mU M' + 6 ≤ (mU M' + 6 - mU M) + mU M
      omega
  refine (i_X8_led (G := G)).2 _ m (mN M, mU M) (some .null) (thr M') hm (argE vs) M (.inl 0) env' M' hfe (Nat.le_succ _) (show mU M' ≤ mU M' + 6 by omega) (fun v hv => by cases hv) ls s.heap [] 0 0 hLk ⟨hr, (fun q hq => by cases hq), Nat.zero_add _, Nat.zero_add _⟩ ?_
  intro t hex ls' H' locs' cells' slots' hLk' ho'
  cases hex
  obtain ⟨x1, x2, x3, x4, x5⟩ := hK.2.2.2.2.2.2.2.2.2
  have hkp : ∀ a : Nat, a < (gH G).size → ¬ (gB G ≤ a) → s.heap[a]? = (gH G)[a]? := fun a _ hn => hr.2.2.1 a (by omega)
  have c1 := ho'.2.2.1
  have c2 := ho'.2.2.2
  refine throwX (A := fun a => gB G ≤ a) (cls := NSE) (names := nsn) (own := "TwoWeavers") (ik := 291) (is := 293) (ic := 295) (ix := 13) (rx := nsx) (cc := kC kX8_led) B.exec B.bytes x5 (by decide +kernel) (by decide +kernel) (by decide +kernel) (by decide +kernel) hown (by decide +kernel) (by decide +kernel) (hK.word (tb 1282 rfl rfl) _) (hK.word (tb 152 rfl rfl) _) x1 (led_at hK _) (fun w hw => List.all_eq_true.mp led_w2 w hw) (x2.kept hkp) (x3.kept hkp) ⟨?_, fun q hq hn => ?_, ho'.2.1⟩ (hLk'.1.trans hml.symm) dX8_led_92 dX8_led_95 dX8_led_96 dX8_led_99 dX8_led_102 (fun x hx => (hout x hx).elim) ?_ ?_ ?_ ?_ B.notSynchronized (fun t _ hsz hq => ⟨rfl, rp_thr ho'.1 hsz hq⟩) ho'.2.1 ?_ ?_
  · rw [hr.1, ho'.1.1]; exact hmono.1
  · have hn' : ¬ gB G ≤ q := hn
    rw [ho'.1.2.2.1 q (by omega), hr.2.2.1 q (by omega)]
  · show 2 + 3 < 6
    decide
  · show 0 + (13 * 3 + 43) ≤ 113
    decide
  · show cells' + 1 ≤ mN M' + 1 - mN M
    have : cells' + mN M = mN M' := c1
    omega
  · show slots' + 6 ≤ mU M' + 6 - mU M
    have : slots' + mU M = mU M' := c2
    omega
  · show cells' + 1 ≤ mN M' + 1 - mN M
    have : cells' + mN M = mN M' := c1
    omega
  · show slots' + 6 ≤ mU M' + 6 - mU M
    have : slots' + mU M = mU M' := c2
    omega
noncomputable def b_L_ledR : Sv := sSeq (sAL (eR 2) (eK (0 : Int32)) (b1 Int32.toInt64 (toI (cFv 9 f_X8_led (vI (vA vN (eR 0)) (eI 1)))))) (sRetI (eK (0 : Int32)))
theorem i_L_ledR {G : qG} : XS G kL_led 0 0 0 0 b_L_ledR := ySeq (p1 := 15) (yGoto (y_AL (x_aload_n (i := 2) dL_led_0 rfl) (x_iconst (v := 0) dL_led_1 ci_0) (x1 (x_toI (x_callV (t := 9) k_X8_led (xvI (xvA xvN (x_aload_n (i := 0) dL_led_2 rfl)) (x_iload_n (i := 1) dL_led_3 rfl)) dL_led_4 mL_7 lc_X8_led im_X8_led se_X8_led (rcX8 rfl) (by decide) (by decide))) (o_i2l dL_led_7)) dL_led_8 (by decide)) dL_led_9 rfl) (y_retI (x_iconst (v := 0) dL_led_15 ci_0) dL_led_16 rfl (by decide))
/-- the law's own led: what x.led returns goes into the row's first place, a throw is told by 1 -/
noncomputable def f_L_led : Fn := fun vs M => match vs with
  | [.ref x, .int i, .ref o] => if (tg M x).1 = 9 then (match b_X8_led [.ref x, .int i] M with
    | some (.inl 0, _, M') => some (some (.int 1), thr M')
    | _ => fnOf 3 b_L_ledR vs M) else none
  | _ => none
set_option maxRecDepth 100000 in
theorem led_caught {G : qG} {x o : Nat} {i : Int32} {M M' : qM} {env' : qE} (htg : (tg M x).1 = 9) (hfe : b_X8_led [.ref x, .int i] M = some (.inl 0, env', M')) :
    Met (gl G) (kY kL_led) (Cond.codeWith (kY kL_led) (kC kL_led) (kL kL_led) (kT kL_led) [(0, 9, 12, 13)] :: TBL) (rmK kL_led M (thr M')) (PC G [.ref x, .int i, .ref o] M) (QC G (some (.int 1)) (thr M')) (mN (thr M') - mN M) (mU (thr M') - mU M) (fun q => gB G ≤ q) := by
  have hmono := (i_X8_led (G := G)).1 _ _ _ _ _ hfe
  have hmono' : mN M ≤ mN (thr M') ∧ mU M ≤ mU (thr M') := ⟨Nat.le_succ_of_le hmono.1, Nat.le_trans hmono.2 (Nat.le_add_right _ 6)⟩
  refine va_MetW (cc := kC kL_led) (maxL := kL kL_led) (ret := kT kL_led) (by decide +kernel) rfl ?_
  intro p e s m args below meth c s₁ B hml hv
  obtain ⟨rfl, hK, hr⟩ := hv
  obtain ⟨ls, he, hLk⟩ := entryL (G := G) (K := kL_led) (vs := [.ref x, .int i, .ref o]) (Nat.le_of_ble_eq_true rfl) m
  rw [he]
  have hown : s.vm.findClass "TwoWeaversLaw" = some m.cls := findClass_of_methodNamed B.named
  have hts : ∀ w ∈ TBL, w.before (([.ref x, .int i, .ref o] : List Value).map (cv G)).toArray s = true := fun w h => hK.word h _
  have htab := vx_table (x := kY kL_led) B (atoms_spec B.pre _ List.mem_cons_self)
  have h2 : ls[2]? = some (.val (.ref o)) := hLk.2.2 2 (.ref o) rfl (by simp)
  have h0 : ls[0]? = some (.val (.ref x)) := hLk.2.2 0 (.ref x) rfl (by simp)
  have h1 : ls[1]? = some (.val (.int i)) := hLk.2.2 1 (.int i) rfl (by simp)
  refine lv_aload_n B.exec B.bytes dL_led_0 rfl h2 (lv_iconst B.exec B.bytes dL_led_1 ci_0 (lv_aload_n B.exec B.bytes dL_led_2 rfl h0 (lv_iload_n B.exec B.bytes dL_led_3 rfl h1 ?_)))
  obtain ⟨m1, m2, m3, m4, m5, m6, m7, m8, m9, m10⟩ := (callPre' (R := rmK kL_led M (thr M')) (args := (([.ref x, .int i, .ref o] : List Value).map (cv G)).toArray) (M := M) (M' := thr M') hK lc_X8_led (Nat.le_of_ble_eq_true rfl) (Nat.le_of_ble_eq_true rfl))
  have hlk : Cond.methodLink "TwoWeaversLaw" 7 (kY kX8_led) ∈ TBL := tb5 186 (by decide +kernel) rfl
  obtain ⟨bb, As, g1, g2, g3⟩ := rcvC (G := G) (t := 9) (vs := [.ref x, .int i]) (M := M) (H := s.heap) (C := (kY kX8_led).cls) hK hr (decide_eq_true htg) (rcX8 rfl)
  have hpv : PreV s s.heap (kY kX8_led).cls x (PC G [.ref x, .int i] M) [.int i] := ⟨FB, by cases g1; exact g3, fun U hU hW => ⟨rfl, hK.moved hW, by rw [hU]; exact hr⟩⟩
  have hrun := vx_runV (e := e) (n := 1) (C := (kY kX8_led).cls) (own := "TwoWeaversLaw") (index := 7) (rest := [.int 0, .ref o]) (g := F0 m 4 ls [.int i, .ref x, .int 0, .ref o]) (cells := 0) (slots := 0) (locs := []) (below := below) (meth := meth) ⟨B.exec, B.bytes, hml, hown, hts⟩ (led_throws (G := G) (vs := [.ref x, .int i]) rfl hfe) ⟨⟨m1, m2, m3, m4, m5, m6, m7, m8, m9, m10, hts _ hlk⟩, hts _ im_X8_led, hts _ se_X8_led⟩ hpv rfl rfl hLk.1 rfl (Nat.le_of_ble_eq_true rfl) dL_led_4 ⟨Nat.le_of_eq (Nat.zero_add _), Nat.le_of_eq (Nat.zero_add _)⟩
  intro T hT X
  rcases hrun T hT X with ⟨v, st₀, t, T', L, _, _, _, _, _, hF, _⟩ | ⟨q, st₀, t, T', L, E, ce, q1, q2, q3, q4, q5, ⟨q6, q7⟩, q8, q9, q10, q11⟩
  · exact hF.elim
  · subst q6
    have hcast := castNSE hK (([.ref x, .int i, .ref o] : List Value).map (cv G)).toArray
    have hend : W p (gl G) e (rmK kL_led M (thr M')) s m (([.ref x, .int i, .ref o] : List Value).map (cv G)).toArray below meth c t.heap ([] ++ L) (0 + (mN (thr M') - mN M)) (0 + (mU (thr M') - mU M)) (MQ below (QC G (some (.int 1)) (thr M')) (([.ref x, .int i, .ref o] : List Value).map (cv G)).toArray s (mN (thr M') - mN M) (mU (thr M') - mU M) (fun q => gB G ≤ q)) (F0 m 12 ls [.ref q]) := by
      refine lv_astore_n B.exec B.bytes dL_led_12 rfl hLk.has (by decide) rfl (fun ls' hl' => ?_)
      refine lv_iconst B.exec B.bytes dL_led_13 ci_1 ?_
      have hmx := (mxOf (v := some (.int 1)) hmono' B hml hK)
      obtain ⟨p9, e9, R9, s9, a9, b9, mm9, c9, Q9, hw9, -, -, -, -, -, -, -, -, -, -, hret⟩ := hmx
      refine hret 14 ls' t.heap ([] ++ L) (0 + (mN (thr M') - mN M)) (0 + (mU (thr M') - mU M)) ⟨dL_led_14, Or.inl rfl⟩ ⟨q7, fun z hz => q3 z (by simpa using hz), ?_, ?_⟩
      · show 0 + (mN (thr M') - mN M) + mN M = mN (thr M')
        have := hmono'.1
        omega
      · show 0 + (mU (thr M') - mU M) + mU M = mU (thr M')
        have := hmono'.2
        omega
    have hcat := vx_catch (Q := MQ below (QC G (some (.int 1)) (thr M')) (([.ref x, .int i, .ref o] : List Value).map (cv G)).toArray s (mN (thr M') - mN M) (mU (thr M') - mU M) (fun q => gB G ≤ q)) (pc := 4) (ls := ls) (rest := [.int 0, .ref o]) (own := "TwoWeaversLaw") (name := NSE) hown [] _ [] htab (fun z hz => by cases hz) (by decide) (by decide) (hts _ (tb 1276 rfl rfl)) hcast q8 q9 q10 hend
    obtain ⟨t2, a1, b1⟩ := hcat T' q4 q2
    exact ⟨t2, q11.trans a1, b1⟩
theorem k_L_led {G : qG} : CKW G kL_led [(0, 9, 12, 13)] f_L_led := by
  intro vs M v M' hF
  unfold f_L_led at hF
  split at hF
  · rename_i x i o
    split at hF
    · rename_i htg
      split at hF
      · rename_i env' M1 hfe
        cases hF
        have hmono := (i_X8_led (G := G)).1 _ _ _ _ _ hfe
        exact ⟨Nat.le_succ_of_le hmono.1, Nat.le_trans hmono.2 (Nat.le_add_right _ 6), led_caught htg hfe⟩
      · exact ck_ofT (by decide +kernel) (by decide) i_L_ledR _ _ _ _ hF
    · cases hF
  · cases hF
