/-! values that come by jumps -/
section RJ
variable {G : qG} {K : qK}
theorem xGo {α : Type} {d pc p1 p2 : Nat} {off : Int} {π : α → List Value} {a : Ev α} (ha : XP G K d pc p1 π a) (hd : decode (kC K) p1 = .ok (.goto off, 3)) (ht : (p1 : Int) + off = (p2 : Int)) : XP G K d pc p2 π a := by
  refine ⟨ha.1, ?_⟩
  intro w mt b vF MF hm env M x M' hf hn hu st ls H locs cells slots hst hl ho kk
  exact ha.2 w mt b vF MF hm env M x M' hf hn hu st ls H locs cells slots hst hl ho (fun H' l' c' s' o' => go hd ht w mt b vF MF hm _ ls H' l' c' s' (kk H' l' c' s' o'))
theorem xTern2 {α : Type} {d d1 d2 pc pt pf p2 : Nat} {π : α → List Value} {c : Ev Bool} {a a' : Ev α} (hc : XC G K d pc pt pf c) (ha : XP G K d1 pt p2 π a) (ha' : XP G K d2 pf p2 π a') : XP G K (max d (max d1 d2)) pc p2 π (tern c a a') := by
  refine ⟨fun env M x M' h => ?_, ?_⟩
  · obtain ⟨r, h1, h2⟩ := bnd h
    have a1 := hc.1 env M r.1 r.2 h1
    split at h2
    · have a2 := ha.1 env r.2 x M' h2
      exact ⟨by omega, by omega⟩
    · have a2 := ha'.1 env r.2 x M' h2
      exact ⟨by omega, by omega⟩
  · intro w mt b vF MF hm env M x M' hf hn hu st ls H locs cells slots hst hl ho kk
    obtain ⟨r, h1, h2⟩ := bnd hf
    split at h2
    · rename_i hr
      have a2 := ha.1 env r.2 x M' h2
      refine hc.2 w mt b vF MF hm env M r.1 r.2 h1 (by omega) (by omega) st ls H locs cells slots (by omega) hl ho (fun H' l' c' s' o' => ?_)
      rw [if_pos hr]
      exact ha.2 w mt b vF MF hm env r.2 x M' h2 hn hu st ls H' l' c' s' (by omega) hl o' kk
    · rename_i hr
      have a2 := ha'.1 env r.2 x M' h2
      refine hc.2 w mt b vF MF hm env M r.1 r.2 h1 (by omega) (by omega) st ls H locs cells slots (by omega) hl ho (fun H' l' c' s' o' => ?_)
      rw [if_neg hr]
      exact ha'.2 w mt b vF MF hm env r.2 x M' h2 hn hu st ls H' l' c' s' (by omega) hl o' kk
theorem xZ2 {d d1 d2 pc pt pf p2 : Nat} {c : Ev Bool} (hc : XC G K d pc pt pf c) (h1 : XP G K d1 pt p2 piI (eK (1 : Int32))) (h0 : XP G K d2 pf p2 piI (eK (0 : Int32))) : XP G K (max d (max d1 d2)) pc p2 piI (eZ c) := by
  have e : eZ c = tern c (eK (1 : Int32)) (eK (0 : Int32)) := by
    funext env M
    unfold eZ b1 tern eK b2i
    cases c env M with
    | none => rfl
    | some r => cases h : r.1 <;> simp [h]
  rw [e]
  exact xTern2 hc h1 h0
def mMax (x y : Int32) : Int32 := if x < y then y else x
theorem x_mMax {d1 d2 pc p1 p2 idx : Nat} {a c : Ev Int32} (ha : XP G K d1 pc p1 piI a) (hc : XP G K d2 p1 p2 piI c) (hd : decode (kC K) p2 = .ok (.invokestatic idx, 3)) (hlk : Cond.methodLink (kY K).cls idx Lib.Math.max.name ∈ TBL) (hfr : 1 ≤ kF K) (hlo : 21 ≤ kO K) : XP G K (max d1 (d2 + 1)) pc (p2 + 3) piI (b2 mMax a c) := by
  refine xx ha wI hc (fun env M z M' h => ?_)
  obtain ⟨r, h1, h2⟩ := bnd h
  obtain ⟨q, h3, h4⟩ := bnd h2
  cases h4
  refine ⟨r, q, h1, h3, Nat.le_refl _, Nat.le_refl _, fun w mt b vF MF hm hn hu st ls H locs cells slots hst8 hls o kk => ?_⟩
  have kk := kk H locs cells slots o
  have hw8 : (st.map fun v => v.category).sum ≤ 8 := hst8
  have o3 := o.2.2.1
  have o4 := o.2.2.2
  obtain ⟨p, e, R, s, args, below, meth, cc, Q, rfl, hx, hb, hml, hown, hK, hnm, hR1, hR2, hR3, hR4, hret⟩ := hm
  have hin : Cond.initialized "java/lang/Math" ∈ TBL := by decide +kernel
  have hst : Cond.static Lib.Math.max.name ∈ TBL := by decide +kernel
  have hcd : Cond.code Lib.Math.max.name Lib.Math.max.code 2 (some .int) ∈ TBL := by decide +kernel
  exact va_mmax (rest := st) hx hb (hml.trans hls.symm) hown (hK.word hlk args) (hK.word hst args) (hK.word hin args) (hK.word hcd args) (by omega) (by omega) (by omega) (by omega) hd kk
def mMin (x y : Int32) : Int32 := if y < x then y else x
theorem x_mMin {d1 d2 pc p1 p2 idx : Nat} {a c : Ev Int32} (ha : XP G K d1 pc p1 piI a) (hc : XP G K d2 p1 p2 piI c) (hd : decode (kC K) p2 = .ok (.invokestatic idx, 3)) (hlk : Cond.methodLink (kY K).cls idx Lib.Math.min.name ∈ TBL) (hfr : 1 ≤ kF K) (hlo : 21 ≤ kO K) : XP G K (max d1 (d2 + 1)) pc (p2 + 3) piI (b2 mMin a c) := by
  refine xx ha wI hc (fun env M z M' h => ?_)
  obtain ⟨r, h1, h2⟩ := bnd h
  obtain ⟨q, h3, h4⟩ := bnd h2
  cases h4
  refine ⟨r, q, h1, h3, Nat.le_refl _, Nat.le_refl _, fun w mt b vF MF hm hn hu st ls H locs cells slots hst8 hls o kk => ?_⟩
  have kk := kk H locs cells slots o
  have hw8 : (st.map fun v => v.category).sum ≤ 8 := hst8
  have o3 := o.2.2.1
  have o4 := o.2.2.2
  obtain ⟨p, e, R, s, args, below, meth, cc, Q, rfl, hx, hb, hml, hown, hK, hnm, hR1, hR2, hR3, hR4, hret⟩ := hm
  have hin : Cond.initialized "java/lang/Math" ∈ TBL := by decide +kernel
  have hst : Cond.static Lib.Math.min.name ∈ TBL := by decide +kernel
  have hcd : Cond.code Lib.Math.min.name Lib.Math.min.code 2 (some .int) ∈ TBL := by decide +kernel
  exact va_mmin (rest := st) hx hb (hml.trans hls.symm) hown (hK.word hlk args) (hK.word hst args) (hK.word hin args) (hK.word hcd args) (by omega) (by omega) (by omega) (by omega) hd kk
def mMinL (x y : Int64) : Int64 := if y < x then y else x
theorem x_mMinL {d1 d2 pc p1 p2 idx : Nat} {a c : Ev Int64} (ha : XP G K d1 pc p1 piL a) (hc : XP G K d2 p1 p2 piL c) (hd : decode (kC K) p2 = .ok (.invokestatic idx, 3)) (hlk : Cond.methodLink (kY K).cls idx Lib.MathLoose.min_long.x ∈ TBL) (hfr : 1 ≤ kF K) (hlo : 23 ≤ kO K) : XP G K (max d1 (d2 + 2)) pc (p2 + 3) piL (b2 mMinL a c) := by
  refine xx ha wL hc (fun env M z M' h => ?_)
  obtain ⟨r, h1, h2⟩ := bnd h
  obtain ⟨q, h3, h4⟩ := bnd h2
  cases h4
  refine ⟨r, q, h1, h3, Nat.le_refl _, Nat.le_refl _, fun w mt b vF MF hm hn hu st ls H locs cells slots hst8 hls o kk => ?_⟩
  have kk := kk H locs cells slots o
  have hw8 : (st.map fun v => v.category).sum ≤ 8 := hst8
  have o3 := o.2.2.1
  have o4 := o.2.2.2
  obtain ⟨p, e, R, s, args, below, meth, cc, Q, rfl, hx, hb, hml, hown, hK, hnm, hR1, hR2, hR3, hR4, hret⟩ := hm
  have hin : Cond.initialized "java/lang/Math" ∈ TBL := by decide +kernel
  have hst : Cond.static Lib.MathLoose.min_long.x ∈ TBL := by decide +kernel
  have hcd : Cond.code Lib.MathLoose.min_long.x Lib.MathLoose.min_long.code 4 (some .long) ∈ TBL := by decide +kernel
  exact va_mmin_long (rest := st) hx hb (hml.trans hls.symm) hown (hK.word hlk args) (hK.word hst args) (hK.word hin args) (hK.word hcd args) (by omega) (by omega) (by omega) (by omega) hd kk
end RJ
theorem ac_int : Cond.arrayClass (newarray.typeOf .int) ∈ TBL := by decide +kernel
theorem ac_long : Cond.arrayClass (newarray.typeOf .long) ∈ TBL := by decide +kernel
theorem ac_byte : Cond.arrayClass (newarray.typeOf .byte) ∈ TBL := by decide +kernel
theorem ac_boolean : Cond.arrayClass (newarray.typeOf .boolean) ∈ TBL := by decide +kernel
/-- words by their places in the tables' parts -/
theorem in0 {w : Cond} (h : w ∈ k2_sels lw_privs) : w ∈ lw_tbl := List.mem_append_left _ h
theorem in1 {w : Cond} (h : w ∈ tables_1_1) : w ∈ lw_tbl := List.mem_append_right _ (show w ∈ tables_1 from List.mem_append_left _ h)
theorem in2 {w : Cond} (h : w ∈ tables_1_2) : w ∈ lw_tbl := List.mem_append_right _ (show w ∈ tables_1 from List.mem_append_right _ (List.mem_append_left _ h))
theorem in3 {w : Cond} (h : w ∈ tables_1_3) : w ∈ lw_tbl := List.mem_append_right _ (show w ∈ tables_1 from List.mem_append_right _ (List.mem_append_right _ (List.mem_append_left _ h)))
theorem in4 {w : Cond} (h : w ∈ tables_1_4) : w ∈ lw_tbl := List.mem_append_right _ (show w ∈ tables_1 from List.mem_append_right _ (List.mem_append_right _ (List.mem_append_right _ (List.mem_append_left _ h))))
theorem in5 {w : Cond} (h : w ∈ tables_1_5) : w ∈ lw_tbl := List.mem_append_right _ (show w ∈ tables_1 from List.mem_append_right _ (List.mem_append_right _ (List.mem_append_right _ (List.mem_append_right _ (List.mem_append_left _ h)))))
theorem in6 {w : Cond} (h : w ∈ tables_1_6) : w ∈ lw_tbl := List.mem_append_right _ (show w ∈ tables_1 from List.mem_append_right _ (List.mem_append_right _ (List.mem_append_right _ (List.mem_append_right _ (List.mem_append_right _ (List.mem_append_left _ h))))))
theorem in7 {w : Cond} (h : w ∈ tables_1_7) : w ∈ lw_tbl := List.mem_append_right _ (show w ∈ tables_1 from List.mem_append_right _ (List.mem_append_right _ (List.mem_append_right _ (List.mem_append_right _ (List.mem_append_right _ (List.mem_append_right _ (List.mem_append_left _ h)))))))
theorem in8 {w : Cond} (h : w ∈ tables_1_8) : w ∈ lw_tbl := List.mem_append_right _ (show w ∈ tables_1 from List.mem_append_right _ (List.mem_append_right _ (List.mem_append_right _ (List.mem_append_right _ (List.mem_append_right _ (List.mem_append_right _ (List.mem_append_right _ (List.mem_append_left _ h))))))))
theorem in9 {w : Cond} (h : w ∈ tables_1_9) : w ∈ lw_tbl := List.mem_append_right _ (show w ∈ tables_1 from List.mem_append_right _ (List.mem_append_right _ (List.mem_append_right _ (List.mem_append_right _ (List.mem_append_right _ (List.mem_append_right _ (List.mem_append_right _ (List.mem_append_right _ (h)))))))))
theorem tb0 {w : Cond} (i : Nat) (h : (k2_sels lw_privs)[i]? = some w) (g : goodWord w = true) : w ∈ TBL := List.mem_filter.mpr ⟨in0 (List.mem_of_getElem? h), g⟩
theorem tn0 {w : Cond} (i : Nat) (h : (k2_sels lw_privs)[i]? = some w) (g : isNest w = true) : w ∈ NST := List.mem_filter.mpr ⟨in0 (List.mem_of_getElem? h), g⟩
theorem tb1 {w : Cond} (i : Nat) (h : tables_1_1[i]? = some w) (g : goodWord w = true) : w ∈ TBL := List.mem_filter.mpr ⟨in1 (List.mem_of_getElem? h), g⟩
theorem tn1 {w : Cond} (i : Nat) (h : tables_1_1[i]? = some w) (g : isNest w = true) : w ∈ NST := List.mem_filter.mpr ⟨in1 (List.mem_of_getElem? h), g⟩
theorem tb2 {w : Cond} (i : Nat) (h : tables_1_2[i]? = some w) (g : goodWord w = true) : w ∈ TBL := List.mem_filter.mpr ⟨in2 (List.mem_of_getElem? h), g⟩
theorem tn2 {w : Cond} (i : Nat) (h : tables_1_2[i]? = some w) (g : isNest w = true) : w ∈ NST := List.mem_filter.mpr ⟨in2 (List.mem_of_getElem? h), g⟩
theorem tb3 {w : Cond} (i : Nat) (h : tables_1_3[i]? = some w) (g : goodWord w = true) : w ∈ TBL := List.mem_filter.mpr ⟨in3 (List.mem_of_getElem? h), g⟩
theorem tn3 {w : Cond} (i : Nat) (h : tables_1_3[i]? = some w) (g : isNest w = true) : w ∈ NST := List.mem_filter.mpr ⟨in3 (List.mem_of_getElem? h), g⟩
theorem tb4 {w : Cond} (i : Nat) (h : tables_1_4[i]? = some w) (g : goodWord w = true) : w ∈ TBL := List.mem_filter.mpr ⟨in4 (List.mem_of_getElem? h), g⟩
theorem tn4 {w : Cond} (i : Nat) (h : tables_1_4[i]? = some w) (g : isNest w = true) : w ∈ NST := List.mem_filter.mpr ⟨in4 (List.mem_of_getElem? h), g⟩
theorem tb5 {w : Cond} (i : Nat) (h : tables_1_5[i]? = some w) (g : goodWord w = true) : w ∈ TBL := List.mem_filter.mpr ⟨in5 (List.mem_of_getElem? h), g⟩
theorem tn5 {w : Cond} (i : Nat) (h : tables_1_5[i]? = some w) (g : isNest w = true) : w ∈ NST := List.mem_filter.mpr ⟨in5 (List.mem_of_getElem? h), g⟩
theorem tb6 {w : Cond} (i : Nat) (h : tables_1_6[i]? = some w) (g : goodWord w = true) : w ∈ TBL := List.mem_filter.mpr ⟨in6 (List.mem_of_getElem? h), g⟩
theorem tn6 {w : Cond} (i : Nat) (h : tables_1_6[i]? = some w) (g : isNest w = true) : w ∈ NST := List.mem_filter.mpr ⟨in6 (List.mem_of_getElem? h), g⟩
theorem tb7 {w : Cond} (i : Nat) (h : tables_1_7[i]? = some w) (g : goodWord w = true) : w ∈ TBL := List.mem_filter.mpr ⟨in7 (List.mem_of_getElem? h), g⟩
theorem tn7 {w : Cond} (i : Nat) (h : tables_1_7[i]? = some w) (g : isNest w = true) : w ∈ NST := List.mem_filter.mpr ⟨in7 (List.mem_of_getElem? h), g⟩
theorem tb8 {w : Cond} (i : Nat) (h : tables_1_8[i]? = some w) (g : goodWord w = true) : w ∈ TBL := List.mem_filter.mpr ⟨in8 (List.mem_of_getElem? h), g⟩
theorem tn8 {w : Cond} (i : Nat) (h : tables_1_8[i]? = some w) (g : isNest w = true) : w ∈ NST := List.mem_filter.mpr ⟨in8 (List.mem_of_getElem? h), g⟩
theorem tb9 {w : Cond} (i : Nat) (h : tables_1_9[i]? = some w) (g : goodWord w = true) : w ∈ TBL := List.mem_filter.mpr ⟨in9 (List.mem_of_getElem? h), g⟩
theorem tn9 {w : Cond} (i : Nat) (h : tables_1_9[i]? = some w) (g : isNest w = true) : w ∈ NST := List.mem_filter.mpr ⟨in9 (List.mem_of_getElem? h), g⟩
