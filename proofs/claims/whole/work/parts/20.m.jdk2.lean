/-! String.length and String.charAt of String constants: pure value .retAddr i the constant i, .retAddr (100 + i) its bytes, .float 0 the formatter -/
def kJ3_checkIndex_8e157 : qK := (yJ3_checkIndex_8e157, cJ3_checkIndex_8e157, 3, some .int, 0, 0)
def kJ0_checkIndex_df160 : qK := (yJ0_checkIndex_df160, cJ0_checkIndex_df160, 2, none, 1, 22)
def kJ1_charAt_3b067 : qK := (yJ1_charAt_3b067, cJ1_charAt_3b067, 2, some .char, 2, 43)
def kJ0_isLatin1_aae02 : qK := (yJ0_isLatin1_aae02, cJ0_isLatin1_aae02, 1, some .boolean, 0, 0)
def kJ0_coder_7d493 : qK := (yJ0_coder_7d493, cJ0_coder_7d493, 1, some .byte, 0, 0)
theorem lc_J3_checkIndex_8e157 : lkC kJ3_checkIndex_8e157 3 := ⟨tb1 15 (by decide +kernel) rfl, tb3 39 (by decide +kernel) rfl, by decide, by decide, by decide +kernel⟩
theorem st_J3_checkIndex_8e157 : Cond.static (kY kJ3_checkIndex_8e157) ∈ TBL := tb3 38 (by decide +kernel) rfl
theorem lc_J0_checkIndex_df160 : lkC kJ0_checkIndex_df160 2 := ⟨tb1 13 (by decide +kernel) rfl, tb3 34 (by decide +kernel) rfl, by decide, by decide, by decide +kernel⟩
theorem st_J0_checkIndex_df160 : Cond.static (kY kJ0_checkIndex_df160) ∈ TBL := tb3 33 (by decide +kernel) rfl
theorem lc_J1_charAt_3b067 : lkC kJ1_charAt_3b067 2 := ⟨tb1 14 (by decide +kernel) rfl, tb3 31 (by decide +kernel) rfl, by decide, by decide, by decide +kernel⟩
theorem st_J1_charAt_3b067 : Cond.static (kY kJ1_charAt_3b067) ∈ TBL := tb3 30 (by decide +kernel) rfl
theorem lc_J0_isLatin1_aae02 : lkC kJ0_isLatin1_aae02 0 := ⟨tb1 13 (by decide +kernel) rfl, tb3 28 (by decide +kernel) rfl, by decide, by decide, by decide +kernel⟩
theorem im_J0_isLatin1_aae02 : Cond.instanceMethod (kY kJ0_isLatin1_aae02) ∈ TBL := tb3 26 (by decide +kernel) rfl
theorem se_J0_isLatin1_aae02 : Cond.selects (kY kJ0_isLatin1_aae02).cls (kY kJ0_isLatin1_aae02) (kY kJ0_isLatin1_aae02) ∈ TBL := tb3 27 (by decide +kernel) rfl
theorem lc_J0_coder_7d493 : lkC kJ0_coder_7d493 0 := ⟨tb1 13 (by decide +kernel) rfl, tb3 18 (by decide +kernel) rfl, by decide, by decide, by decide +kernel⟩
theorem im_J0_coder_7d493 : Cond.instanceMethod (kY kJ0_coder_7d493) ∈ TBL := tb3 16 (by decide +kernel) rfl
theorem se_J0_coder_7d493 : Cond.selects (kY kJ0_coder_7d493).cls (kY kJ0_coder_7d493) (kY kJ0_coder_7d493) ∈ TBL := tb3 17 (by decide +kernel) rfl
theorem mJ0_335 : lkM RJ0 335 yJ0_coder_7d493 := Or.inl (tb3 15 (by decide +kernel) rfl)
theorem mJ0_492 : lkM RJ0 492 yJ0_isLatin1_aae02 := Or.inl (tb3 25 (by decide +kernel) rfl)
theorem mJ0_495 : lkM RJ0 495 yJ1_charAt_3b067 := Or.inl (tb3 29 (by decide +kernel) rfl)
theorem mJ1_9 : lkM RJ1 9 yJ0_checkIndex_df160 := Or.inl (tb3 32 (by decide +kernel) rfl)
theorem mJ0_1059 : lkM RJ0 1059 yJ3_checkIndex_8e157 := Or.inl (tb3 37 (by decide +kernel) rfl)
theorem fJ0_9 : Cond.fieldLink RJ0 9 "java/lang/String" "value" "[B" ∈ TBL := tb9 54 (by decide +kernel) rfl
theorem fJ0_15 : Cond.fieldLink RJ0 15 "java/lang/String" "coder" "B" ∈ TBL := tb9 55 (by decide +kernel) rfl
theorem fJ0_38 : Cond.fieldLink RJ0 38 "java/lang/String" "COMPACT_STRINGS" "Z" ∈ TBL := tb3 19 (by decide +kernel) rfl
theorem fJ0_1053 : Cond.fieldLink RJ0 1053 "jdk/internal/util/Preconditions" "SIOOBE_FORMATTER" "Ljava/util/function/BiFunction;" ∈ TBL := tb3 35 (by decide +kernel) rfl
def piF (G : qG) : Unit → List Value := fun _ => [va_rf (gF G)]
def vF (a : Ev (List Value)) (e : Ev Unit) : Ev (List Value) := b2 (fun l _ => l ++ [Value.float 0]) a e
def strV (a : Ev Nat) : Ev Nat := fun env M => (a env M).bind fun r => if r.1 < 40 then some (100 + r.1, r.2) else none
def strC (a : Ev Nat) : Ev Int32 := fun env M => (a env M).bind fun r => if r.1 < 40 then some (0, r.2) else none
def strN (a : Ev Nat) : Ev Int32 := fun env M => (a env M).bind fun r => if 100 ≤ r.1 ∧ r.1 < 140 then some (Int32.ofNat (sY.getD (r.1 - 100) []).length, r.2) else none
def strB (a : Ev Nat) (i : Ev Int32) : Ev Int32 := fun env M => (a env M).bind fun r => (i env r.2).bind fun q => if (100 ≤ r.1 ∧ r.1 < 140) ∧ inb q.1 (sY.getD (r.1 - 100) []).length = true then some ((sY.getD (r.1 - 100) []).getD q.1.toNatClampNeg 0, q.2) else none
section RK
variable {G : qG} {K : qK}
theorem st_at {i : Nat} (h : i < 40) {s : State} (hK : Kn G s) : ∃ q, sT[i]? = some q ∧ va_OF "java/lang/String" "coder" "B" (.int 0) (gK G i) (fun a => gB G ≤ a) s (gH G) ∧ va_OF "java/lang/String" "value" "[B" (.ref (gV G i)) (gK G i) (fun a => gB G ≤ a) s (gH G) ∧ va_T .byte (gV G i) (sY.getD i []).length (fun j => .int ((sY.getD i []).getD j 0)) (fun a => gB G ≤ a) s (gH G) := by
  have hq : sT[i]? = some (sT[i]'h) := List.getElem?_eq_getElem h
  exact ⟨_, hq, (hK.2.2.2.2.2.1 i _ hq).2.2⟩
theorem x_CS {pc idx : Nat} (hd : decode (kC K) pc = .ok (.getstatic idx, 3)) (hl1 : Cond.fieldLink (kY K).cls idx "java/lang/String" "COMPACT_STRINGS" "Z" ∈ TBL) : XP G K 0 pc (pc + 3) piI (eK (1 : Int32)) := by
  refine ⟨fun env M x M' h => by cases h; exact ⟨Nat.le_refl _, Nat.le_refl _⟩, ?_⟩
  intro w mt b vF MF hm env M x M' hf hn hu st ls H locs cells slots hst hl ho kk
  cases hf
  have kk := kk H locs cells slots ho
  obtain ⟨p, e, R, s, args, below, meth, c, Q, rfl, hx, hb, hml, hown, hK, hnm, hR1, hR2, hR3, hR4, hret⟩ := hm
  obtain ⟨cf, kf, fi, f, a, cell, h1, h2, h3, h4, h5, h6, h7, h8⟩ := hK.2.2.2.2.2.2.1
  exact W.gets hx hb hown (hK.word hl1 args) h1 h2 h3 h4 (by rw [ho.1.2.2.1 a (Array.getElem?_eq_some_iff.mp h5).1]; exact h5) (fun e => by rw [e] at h6; cases h6) h7 rfl hd kk
theorem x_FM {pc idx : Nat} (hd : decode (kC K) pc = .ok (.getstatic idx, 3)) (hl1 : Cond.fieldLink (kY K).cls idx "jdk/internal/util/Preconditions" "SIOOBE_FORMATTER" "Ljava/util/function/BiFunction;" ∈ TBL) : XP G K 0 pc (pc + 3) (piF G) (eK ()) := by
  refine ⟨fun env M x M' h => by cases h; exact ⟨Nat.le_refl _, Nat.le_refl _⟩, ?_⟩
  intro w mt b vF MF hm env M x M' hf hn hu st ls H locs cells slots hst hl ho kk
  cases hf
  have kk := kk H locs cells slots ho
  obtain ⟨p, e, R, s, args, below, meth, c, Q, rfl, hx, hb, hml, hown, hK, hnm, hR1, hR2, hR3, hR4, hret⟩ := hm
  obtain ⟨cf, kf, fi, f, a, cell, h1, h2, h3, h4, h5, h6, h7, h8⟩ := hK.2.2.2.2.2.2.2.1
  exact W.gets hx hb hown (hK.word hl1 args) h1 h2 h3 h4 (by rw [ho.1.2.2.1 a (Array.getElem?_eq_some_iff.mp h5).1]; exact h5) (fun e => by rw [e] at h6; cases h6) h7 rfl hd kk
theorem x_strV {d pc p1 idx : Nat} {a : Ev Nat} (ha : XP G K d pc p1 (piS G) a) (hd : decode (kC K) p1 = .ok (.getfield idx, 3)) (hl1 : Cond.fieldLink (kY K).cls idx "java/lang/String" "value" "[B" ∈ TBL) : XP G K d pc (p1 + 3) (piS G) (strV a) := by
  refine ⟨fun env M x M' h => ?_, ?_⟩
  · obtain ⟨r, h1, h2⟩ := bnd h
    split at h2
    · cases h2; exact ha.1 env M r.1 r.2 h1
    · cases h2
  · intro w mt b vF MF hm env M x M' hf hn hu st ls H locs cells slots hst hl ho kk
    obtain ⟨r, h1, h2⟩ := bnd hf
    split at h2
    · rename_i h40
      cases h2
      refine ha.2 w mt b vF MF hm env M r.1 r.2 h1 hn hu st ls H locs cells slots hst hl ho (fun H' l' c' s' o' => ?_)
      have kk := kk H' l' c' s' o'
      obtain ⟨p, e, R, s, args, below, meth, c, Q, rfl, hx, hb, hml, hown, hK, hnm, hR1, hR2, hR3, hR4, hret⟩ := hm
      obtain ⟨q, -, -, ⟨cf, k, fi, f, cell, g1, g2, g3, g4, g5, -⟩, -⟩ := st_at h40 hK
      exact W.getf hx hb hown (hK.word hl1 args) g1 g2 (by rw [o'.1.2.2.1 _ (Array.getElem?_eq_some_iff.mp g3).1]; exact g3) g4 g5 rfl rfl hd kk
    · cases h2
theorem x_strC {d pc p1 idx : Nat} {a : Ev Nat} (ha : XP G K d pc p1 (piS G) a) (hd : decode (kC K) p1 = .ok (.getfield idx, 3)) (hl1 : Cond.fieldLink (kY K).cls idx "java/lang/String" "coder" "B" ∈ TBL) : XP G K d pc (p1 + 3) piI (strC a) := by
  refine ⟨fun env M x M' h => ?_, ?_⟩
  · obtain ⟨r, h1, h2⟩ := bnd h
    split at h2
    · cases h2; exact ha.1 env M r.1 r.2 h1
    · cases h2
  · intro w mt b vF MF hm env M x M' hf hn hu st ls H locs cells slots hst hl ho kk
    obtain ⟨r, h1, h2⟩ := bnd hf
    split at h2
    · rename_i h40
      cases h2
      refine ha.2 w mt b vF MF hm env M r.1 r.2 h1 hn hu st ls H locs cells slots hst hl ho (fun H' l' c' s' o' => ?_)
      have kk := kk H' l' c' s' o'
      obtain ⟨p, e, R, s, args, below, meth, c, Q, rfl, hx, hb, hml, hown, hK, hnm, hR1, hR2, hR3, hR4, hret⟩ := hm
      obtain ⟨q, -, ⟨cf, k, fi, f, cell, g1, g2, g3, g4, g5, -⟩, -⟩ := st_at h40 hK
      exact W.getf hx hb hown (hK.word hl1 args) g1 g2 (by rw [o'.1.2.2.1 _ (Array.getElem?_eq_some_iff.mp g3).1]; exact g3) g4 g5 rfl rfl hd kk
    · cases h2
theorem x_strN {d pc p1 : Nat} {a : Ev Nat} (ha : XP G K d pc p1 (piS G) a) (hd : decode (kC K) p1 = .ok (.arraylength, 1)) : XP G K d pc (p1 + 1) piI (strN a) := by
  refine ⟨fun env M x M' h => ?_, ?_⟩
  · obtain ⟨r, h1, h2⟩ := bnd h
    split at h2
    · cases h2; exact ha.1 env M r.1 r.2 h1
    · cases h2
  · intro w mt b vF MF hm env M x M' hf hn hu st ls H locs cells slots hst hl ho kk
    obtain ⟨r, h1, h2⟩ := bnd hf
    split at h2
    · rename_i h40
      cases h2
      refine ha.2 w mt b vF MF hm env M r.1 r.2 h1 hn hu st ls H locs cells slots hst hl ho (fun H' l' c' s' o' => ?_)
      have kk := kk H' l' c' s' o'
      obtain ⟨p, e, R, s, args, below, meth, c, Q, rfl, hx, hb, hml, hown, hK, hnm, hR1, hR2, hR3, hR4, hret⟩ := hm
      obtain ⟨q, -, -, -, ⟨cell, g1, g2, g3, g4, g5, g6, -⟩⟩ := st_at (G := G) (i := r.1 - 100) (by omega) hK
      have e100 : 100 + (r.1 - 100) = r.1 := by omega
      rw [show gV G (r.1 - 100) = gK G r.1 by show gK G (100 + (r.1 - 100)) = _; rw [e100]] at g1
      exact W.alen hx hb (by rw [o'.1.2.2.1 _ (Array.getElem?_eq_some_iff.mp g1).1]; exact g1) g2 g5 rfl rfl hd kk
    · cases h2
theorem x_strB {d1 d2 pc p1 p2 : Nat} {a : Ev Nat} {i : Ev Int32} (ha : XP G K d1 pc p1 (piS G) a) (hi : XP G K d2 p1 p2 piI i) (hd : decode (kC K) p2 = .ok (.baload, 1)) : XP G K (max d1 (d2 + 1)) pc (p2 + 1) piI (strB a i) := by
  refine xx ha (fun _ => Nat.le_refl _) hi (fun env M z M' h => ?_)
  obtain ⟨r, h1, h2⟩ := bnd h
  obtain ⟨q, h3, h4⟩ := bnd h2
  split at h4
  · rename_i htg
    cases h4
    refine ⟨r, q, h1, h3, Nat.le_refl _, Nat.le_refl _, fun w mt b vF MF hm _ _ st ls H locs cells slots _ _ o kk => ?_⟩
    have hin : ¬ (q.1 < 0 ∨ (sY.getD (r.1 - 100) []).length ≤ q.1.toNatClampNeg) := of_decide_eq_true htg.2
    have hlt : q.1.toNatClampNeg < (sY.getD (r.1 - 100) []).length := Nat.not_le.mp fun z => hin (Or.inr z)
    have kk := kk H locs cells slots o
    obtain ⟨p, e, R, s, args, below, meth, c, Q, rfl, hx, hb, hml, hown, hK, hnm, hR1, hR2, hR3, hR4, hret⟩ := hm
    obtain ⟨qq, -, -, -, ⟨cell, g1, g2, g3, g4, g5, g6, -⟩⟩ := st_at (G := G) (i := r.1 - 100) (by omega) hK
    have e100 : 100 + (r.1 - 100) = r.1 := by omega
    rw [show gV G (r.1 - 100) = gK G r.1 by show gK G (100 + (r.1 - 100)) = _; rw [e100]] at g1
    exact W.bald hx hb (by rw [o.1.2.2.1 _ (Array.getElem?_eq_some_iff.mp g1).1]; exact g1) g2 g3 (fun z => hin (z.elim Or.inl (fun y => Or.inr (by omega)))) (g6 _ hlt) rfl rfl hd kk
  · cases h4
theorem xvF {d1 d2 k n pc p1 p2 : Nat} {a : Ev (List Value)} {c : Ev Unit} (ha : XA G K d1 k n pc p1 a) (hc : XP G K d2 p1 p2 (piF G) c) : XA G K (max d1 (d2 + k)) (k + 1) (n + 1) pc p2 (vF a c) := xv ha hc (fun _ => rfl) (fun _ => by show wt [va_rf (gF G)] ≤ 1; cases gF G <;> exact Nat.le_refl _)
def i2cI (x : Int32) : Int32 := (x.toUInt32 % 65536).toInt32
theorem o_i2c {pc : Nat} (hd : decode (kC K) pc = .ok (.i2c, 1)) : Op1 G K pc (pc + 1) piI piI i2cI := by
  intro w mt b vF MF hm x st ls H locs cells slots kk
  obtain ⟨p, e, R, s, args, below, meth, c, Q, rfl, hx, hb, hml, hown, hK, hnm, hR1, hR2, hR3, hR4, hret⟩ := hm
  exact lv_i2c hx hb hd rfl kk
end RK
def b_J3_checkIndex_8e157 : Sv := sIf (cOr (b1 zLt (eI 0)) (b2 iGe (eI 0) (eI 1))) sFail (sRetI (eI 0))
def f_J3_checkIndex_8e157 : Fn := fnOf 3 b_J3_checkIndex_8e157
theorem k_J3_checkIndex_8e157 {G : qG} : CK G kJ3_checkIndex_8e157 f_J3_checkIndex_8e157 := ck_of (by decide +kernel) (by decide) (show XS G kJ3_checkIndex_8e157 0 0 0 0 b_J3_checkIndex_8e157 from (yIf (xOr (xc1 (x_iload_n (i := 0) dJ3_checkIndex_8e157_0 rfl) (jz_lt (tgt := 9) dJ3_checkIndex_8e157_1 rfl)) (xc2 (x_iload_n (i := 0) dJ3_checkIndex_8e157_4 rfl) wI (x_iload_n (i := 1) dJ3_checkIndex_8e157_5 rfl) (n_lt (tgt := 16) dJ3_checkIndex_8e157_6 rfl))) (by decide) yFail (y_retI (x_iload_n (i := 0) dJ3_checkIndex_8e157_16 rfl) dJ3_checkIndex_8e157_17 rfl (by decide))))
def b_J0_checkIndex_df160 : Sv := sSeq (sExp (toI (cFs f_J3_checkIndex_8e157 (vF (vI (vI vN (eI 0)) (eI 1)) (eK ()))))) sRetV
def f_J0_checkIndex_df160 : Fn := fnOf 2 b_J0_checkIndex_df160
theorem k_J0_checkIndex_df160 {G : qG} : CK G kJ0_checkIndex_df160 f_J0_checkIndex_df160 := ck_of (by decide +kernel) (by decide) (show XS G kJ0_checkIndex_df160 0 0 0 0 b_J0_checkIndex_df160 from (ySeq (y_pop (x_toI (x_callS k_J3_checkIndex_8e157 (xvF (xvI (xvI xvN (x_iload_n (i := 0) dJ0_checkIndex_df160_0 rfl)) (x_iload_n (i := 1) dJ0_checkIndex_df160_1 rfl)) (x_FM dJ0_checkIndex_df160_2 fJ0_1053)) dJ0_checkIndex_df160_5 mJ0_1059 lc_J3_checkIndex_8e157 st_J3_checkIndex_8e157 (by decide) (by decide))) dJ0_checkIndex_df160_8 (by decide)) (y_retV dJ0_checkIndex_df160_9 rfl)))
def b_J1_charAt_3b067 : Sv := sSeq (sExp (toV (cFs f_J0_checkIndex_df160 (vI (vI vN (eI 1)) (strN (eT 0)))))) (sRetN .char (b1 i2cI (b2 (fun x y => x &&& y) (strB (eT 0) (eI 1)) (eK (255 : Int32)))))
def f_J1_charAt_3b067 : Fn := fnOf 2 b_J1_charAt_3b067
theorem k_J1_charAt_3b067 {G : qG} : CK G kJ1_charAt_3b067 f_J1_charAt_3b067 := ck_of (by decide +kernel) (by decide) (show XS G kJ1_charAt_3b067 0 0 0 0 b_J1_charAt_3b067 from (ySeq (y_exp (x_toV (x_callS k_J0_checkIndex_df160 (xvI (xvI xvN (x_iload_n (i := 1) dJ1_charAt_3b067_0 rfl)) (x_strN (x_aloadS_n (i := 0) dJ1_charAt_3b067_1 rfl) dJ1_charAt_3b067_2)) dJ1_charAt_3b067_3 mJ1_9 lc_J0_checkIndex_df160 st_J0_checkIndex_df160 (by decide) (by decide))) (by decide)) (y_retN (x1 (x2 (x_strB (x_aloadS_n (i := 0) dJ1_charAt_3b067_6 rfl) (x_iload_n (i := 1) dJ1_charAt_3b067_7 rfl) dJ1_charAt_3b067_8) wI (x_sipush (v := 255) dJ1_charAt_3b067_9 cs_255) (o_iand dJ1_charAt_3b067_12)) (o_i2c dJ1_charAt_3b067_13)) dJ1_charAt_3b067_14 rfl (by decide))))
def b_J0_isLatin1_aae02 : Sv := sRetZ (eZ (cAnd (b1 i2z (eK (1 : Int32))) (b1 zEq (strC (eT 0)))))
def f_J0_isLatin1_aae02 : Fn := fnOf 1 b_J0_isLatin1_aae02
theorem k_J0_isLatin1_aae02 {G : qG} : CK G kJ0_isLatin1_aae02 f_J0_isLatin1_aae02 := ck_of (by decide +kernel) (by decide) (show XS G kJ0_isLatin1_aae02 0 0 0 0 b_J0_isLatin1_aae02 from (y_retZ (xZ2 (xAnd (xc1 (x_CS dJ0_isLatin1_aae02_0 fJ0_38) (nz_eq (tgt := 17) dJ0_isLatin1_aae02_3 rfl)) (xc1 (x_strC (x_aloadS_n (i := 0) dJ0_isLatin1_aae02_6 rfl) dJ0_isLatin1_aae02_7 fJ0_15) (nz_ne (tgt := 17) dJ0_isLatin1_aae02_10 rfl))) (xGo (p2 := 18) (x_iconst (v := 1) dJ0_isLatin1_aae02_13 ci_1) dJ0_isLatin1_aae02_14 rfl) (x_iconst (v := 0) dJ0_isLatin1_aae02_17 ci_0)) dJ0_isLatin1_aae02_18 rfl (by decide)))
def b_J0_coder_7d493 : Sv := sRetN .byte (tern (b1 i2z (eK (1 : Int32))) (strC (eT 0)) (eK (1 : Int32)))
def f_J0_coder_7d493 : Fn := fnOf 1 b_J0_coder_7d493
theorem k_J0_coder_7d493 {G : qG} : CK G kJ0_coder_7d493 f_J0_coder_7d493 := ck_of (by decide +kernel) (by decide) (show XS G kJ0_coder_7d493 0 0 0 0 b_J0_coder_7d493 from (y_retN (xTern2 (xc1 (x_CS dJ0_coder_7d493_0 fJ0_38) (nz_eq (tgt := 13) dJ0_coder_7d493_3 rfl)) (xGo (p2 := 14) (x_strC (x_aloadS_n (i := 0) dJ0_coder_7d493_6 rfl) dJ0_coder_7d493_7 fJ0_15) dJ0_coder_7d493_10 rfl) (x_iconst (v := 1) dJ0_coder_7d493_13 ci_1)) dJ0_coder_7d493_14 rfl (by decide)))
def b_J0_length_8abf5 : Sv := sRetI (b2 shrI (strN (strV (eT 0))) (toI (cFv 50 f_J0_coder_7d493 (vS vN (eT 0)))))
def f_J0_length_8abf5 : Fn := fnOf 1 b_J0_length_8abf5
theorem k_J0_length_8abf5 {G : qG} : CK G kJ0_length_8abf5 f_J0_length_8abf5 := ck_of (by decide +kernel) (by decide) (show XS G kJ0_length_8abf5 0 0 0 0 b_J0_length_8abf5 from (y_retI (x2 (x_strN (x_strV (x_aloadS_n (i := 0) dJ0_length_8abf5_0 rfl) dJ0_length_8abf5_1 fJ0_9) dJ0_length_8abf5_4) wI (x_toI (x_callV (t := 50) k_J0_coder_7d493 (xvS xvN (x_aloadS_n (i := 0) dJ0_length_8abf5_5 rfl)) dJ0_length_8abf5_6 mJ0_335 lc_J0_coder_7d493 im_J0_coder_7d493 se_J0_coder_7d493 (Or.inr ⟨rfl, rfl⟩) (by decide) (by decide))) (o_ishr dJ0_length_8abf5_9)) dJ0_length_8abf5_10 rfl (by decide)))
def b_J0_charAt_5068e : Sv := sIf (b1 i2z (toI (cFv 50 f_J0_isLatin1_aae02 (vS vN (eT 0))))) (sRetN .char (toI (cFs f_J1_charAt_3b067 (vI (vS vN (strV (eT 0))) (eI 1))))) sFail
def f_J0_charAt_5068e : Fn := fnOf 2 b_J0_charAt_5068e
theorem k_J0_charAt_5068e {G : qG} : CK G kJ0_charAt_5068e f_J0_charAt_5068e := ck_of (by decide +kernel) (by decide) (show XS G kJ0_charAt_5068e 0 0 0 0 b_J0_charAt_5068e from (yIf (xc1 (x_toI (x_callV (t := 50) k_J0_isLatin1_aae02 (xvS xvN (x_aloadS_n (i := 0) dJ0_charAt_5068e_0 rfl)) dJ0_charAt_5068e_1 mJ0_492 lc_J0_isLatin1_aae02 im_J0_isLatin1_aae02 se_J0_isLatin1_aae02 (Or.inr ⟨rfl, rfl⟩) (by decide) (by decide))) (nz_eq (tgt := 16) dJ0_charAt_5068e_4 rfl)) (by decide) (y_retN (x_toI (x_callS k_J1_charAt_3b067 (xvI (xvS xvN (x_strV (x_aloadS_n (i := 0) dJ0_charAt_5068e_7 rfl) dJ0_charAt_5068e_8 fJ0_9)) (x_iload_n (i := 1) dJ0_charAt_5068e_11 rfl)) dJ0_charAt_5068e_12 mJ0_495 lc_J1_charAt_3b067 st_J1_charAt_3b067 (by decide) (by decide))) dJ0_charAt_5068e_15 rfl (by decide)) yFail))
