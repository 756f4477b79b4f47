/-! WHAT IS TOLD STAYS WITHIN BOUNDS, line by line -/
theorem setF_g {fl : Fl} {f s g : Nat} (h : g ≠ f) (i : Nat) : setF fl f s g i = fl g i := by unfold setF; rw [if_neg (fun z => h z.1)]
theorem setF_n {fl : Fl} {f s i : Nat} (z : setF fl f s f i = false) : fl f i = false ∧ i ≠ s := by
  unfold setF at z
  by_cases e : i = s
  · rw [if_pos ⟨rfl, e⟩] at z; cases z
  · rw [if_neg (fun q => e q.2)] at z; exact ⟨z, e⟩
theorem LoOK.mono {K K' : Nat} {lo : Lo} (h : LoOK K lo) (hk : K ≤ K') : LoOK K' lo := ⟨h.c, fun s i hs hi => Nat.lt_of_lt_of_le (h.r s i hs hi) hk, h.st⟩
section
variable {p : Pl} {lo : Lo} {nm : Nm} {fl : Fl}
theorem RdOK.cloth (K : RdOK p lo nm fl) {a b c d e : Nat} (ha : a ≤ 60) (hb : b ≤ 9) (hc : c ≤ 9) (hd : d ≤ 9) (he : e ≤ 5) : RdOK (plC p a b c d e) lo nm (setF fl 0 0) := by
  refine ⟨((((K.O.u_len ha).u_sl hb).u_h0 hc).u_h1 hd).u_rate he, K.L, K.len, K.nc, K.nr, fun r z x => ?_, fun s hs z => K.sd s hs (by rw [setF_g (by decide)] at z; exact z), K.s12⟩
  unfold plC
  rw [pNx_u2 (by decide), pNx_u2 (by decide), pNx_u2 (by decide), pNx_u2 (by decide), pNx_u2 (by decide)]
  exact K.nx r (by rw [setF_g (by decide)] at z; exact z) x
theorem nmS_app {x : List Nat × Nat × Nat} {i : Nat} (h : i < nm.length) : nmS (nm ++ [x]) i = nmS nm i ∧ nmK (nm ++ [x]) i = nmK nm i := by
  unfold nmS nmK; rw [nm_app nm x h]; exact ⟨rfl, rfl⟩
theorem nmS_end {x : List Nat × Nat × Nat} : nmS (nm ++ [x]) nm.length = x.2.1 ∧ nmK (nm ++ [x]) nm.length = x.2.2 := by
  unfold nmS nmK; rw [nm_end]; exact ⟨rfl, rfl⟩
theorem LoOK.loS {K : Nat} (h : LoOK K lo) {c a b : Nat} (ha : a ≤ 9) (hb : b ≤ 9) : LoOK K (loS lo c a b) := by
  refine ⟨h.c, h.r, fun s d hs hd => ?_⟩
  show u2 (u2 (lS lo) 0 c a) 1 c b s d ≤ 9
  unfold u2
  split
  · exact hb
  · split
    · exact ha
    · exact h.st s d hs hd
theorem RdOK.colour (K : RdOK p lo nm fl) (hc : pCs p < 2) {a b : Nat} (ha : a ≤ 9) (hb : b ≤ 9) (w : List Nat) : RdOK (u2 p 4 0 (pCs p + 1)) (loS lo (pCs p) a b) (nm ++ [(w, 0, pCs p)]) fl := by
  have e4 : pCs (u2 p 4 0 (pCs p + 1)) = pCs p + 1 := by unfold pCs; rw [u2_s]
  have len := K.len
  refine ⟨K.O.u_cs hc, K.L.loS ha hb, ?_, fun i hi z => ?_, fun i hi z => ?_, fun r z x => ?_, K.sd, K.s12⟩
  · rw [e4]
    show (nm ++ [(w, 0, pCs p)]).length = pCs p + 1 + pK p + pMs p
    simp; omega
  · rw [e4]
    by_cases ei : i = nm.length
    · rw [ei, (nmS_end (nm := nm)).2]
      exact Nat.lt_succ_self _
    · have hl : i < nm.length := by simp at hi; omega
      rw [(nmS_app hl).1] at z
      rw [(nmS_app hl).2]
      exact Nat.lt_succ_of_lt (K.nc i hl z)
  · show nmK _ i < pK p
    by_cases ei : i = nm.length
    · rw [ei, (nmS_end (nm := nm)).1] at z; cases z
    · have hl : i < nm.length := by simp at hi; omega
      rw [(nmS_app hl).1] at z
      rw [(nmS_app hl).2]
      exact K.nr i hl z
  · rw [pNx_u2 (by decide)]; exact K.nx r z x
theorem RdOK.row (K : RdOK p lo nm fl) (hk : pK p < 8) {c t : Nat} {s : Bool} (hc : c < pCs p) (ht : t ≤ 3) (w : List Nat) : RdOK (plK p c t s) lo (nm ++ [(w, 1, pK p)]) fl := by
  have len := K.len
  refine ⟨K.O.u_row hk hc ht, K.L.mono (by rw [plK_K]; omega), ?_, fun i hi z => ?_, fun i hi z => ?_, fun r z x => ?_, K.sd, K.s12⟩
  · rw [plK_K]
    show (nm ++ [(w, 1, pK p)]).length = pCs p + (pK p + 1) + pMs p
    simp; omega
  · show nmK _ i < pCs p
    by_cases ei : i = nm.length
    · rw [ei, (nmS_end (nm := nm)).1] at z; cases z
    · have hl : i < nm.length := by simp at hi; omega
      rw [(nmS_app hl).1] at z
      rw [(nmS_app hl).2]
      exact K.nc i hl z
  · rw [plK_K]
    by_cases ei : i = nm.length
    · rw [ei, (nmS_end (nm := nm)).2]
      exact Nat.lt_succ_self _
    · have hl : i < nm.length := by simp at hi; omega
      rw [(nmS_app hl).1] at z
      rw [(nmS_app hl).2]
      exact Nat.lt_succ_of_lt (K.nr i hl z)
  · rw [plK_nx]; exact K.nx r z x
theorem plN_K {l : Nat} {S : Nat → Bool} : pK (plN p l S) = pK p ∧ pCs (plN p l S) = pCs p ∧ pMs (plN p l S) = pMs p := by
  unfold pK pCs pMs
  rw [plN_f (by decide), plN_f (by decide), plN_f (by decide)]
  exact ⟨rfl, rfl, rfl⟩
theorem RdOK.next (K : RdOK p lo nm fl) {l : Nat} {S : Nat → Bool} (hl : l < pK p) (hS : ∀ i, S i = true → i < pK p) : RdOK (plN p l S) lo nm (setF fl 2 l) := by
  obtain ⟨e1, e2, e3⟩ := plN_K (p := p) (l := l) (S := S)
  refine ⟨K.O.u_nx hl hS, by rw [e1]; exact K.L, by rw [e1, e2, e3]; exact K.len, by rw [e2]; exact K.nc, by rw [e1]; exact K.nr, fun r z x => ?_, fun s hs z => K.sd s hs (by rw [setF_g (by decide)] at z; exact z), K.s12⟩
  obtain ⟨z1, z2⟩ := setF_n z
  rw [plN_nx, if_neg z2]
  exact K.nx r z1 x
theorem RdOK.answ (K : RdOK p lo nm fl) {a b : Nat} (ha : a < pK p) (hb : b < pK p) : RdOK (plA p a b) lo nm (setF (setF fl 3 a) 3 b) := by
  refine ⟨K.O.u_an ha hb, K.L, K.len, K.nc, K.nr, fun r z x => ?_, fun s hs z => K.sd s hs (by rw [setF_g (by decide), setF_g (by decide)] at z; exact z), K.s12⟩
  unfold plA
  rw [pNx_u2 (by decide), pNx_u2 (by decide)]
  exact K.nx r (by rw [setF_g (by decide), setF_g (by decide)] at z; exact z) x
theorem RdOK.side (K : RdOK p lo nm fl) {s : Nat} {lo' : Lo} (L : LoOK (pK p) lo') (h1 : ∀ t, t ≠ s → lC lo' t = lC lo t) (h2 : lC lo' s ≤ 12) : RdOK p lo' nm (setF fl 1 s) := by
  refine ⟨K.O, L, K.len, K.nc, K.nr, fun r z x => K.nx r (by rw [setF_g (by decide)] at z; exact z) x, fun t ht z => ?_, fun t ht => ?_⟩
  · obtain ⟨z1, z2⟩ := setF_n z
    rw [h1 t z2]; exact K.sd t ht z1
  · by_cases e : t = s
    · rw [e]; exact h2
    · rw [h1 t e]; exact K.s12 t ht
theorem plM_K {k l : Nat} {R : Nat → Nat} : pK (plM p k l R) = pK p ∧ pCs (plM p k l R) = pCs p := by
  unfold pK pCs
  rw [plM_f (by decide), plM_f (by decide)]
  exact ⟨rfl, rfl⟩
theorem RdOK.motif (K : RdOK p lo nm fl) (hm : pMs p < 4) {k l : Nat} {R : Nat → Nat} (hk : k < 4) (hl : l ≤ 4) (hR : ∀ i, i < l → R i < pK p) (w : List Nat) : RdOK (plM p k l R) lo (nm ++ [(w, 2, pMs p)]) fl := by
  obtain ⟨e1, e2⟩ := plM_K (p := p) (k := k) (l := l) (R := R)
  have len := K.len
  refine ⟨K.O.u_mo hm hk hl hR, by rw [e1]; exact K.L, by rw [e1, e2, plM_ms]; simp; omega, fun i hi z => ?_, fun i hi z => ?_, fun r z x => ?_, K.sd, K.s12⟩
  · rw [e2]
    by_cases ei : i = nm.length
    · rw [ei, (nmS_end (nm := nm)).1] at z; cases z
    · have hl : i < nm.length := by simp at hi; omega
      rw [(nmS_app hl).1] at z
      rw [(nmS_app hl).2]
      exact K.nc i hl z
  · rw [e1]
    by_cases ei : i = nm.length
    · rw [ei, (nmS_end (nm := nm)).1] at z; cases z
    · have hl : i < nm.length := by simp at hi; omega
      rw [(nmS_app hl).1] at z
      rw [(nmS_app hl).2]
      exact K.nr i hl z
  · rw [plM_nx]; exact K.nx r z x
theorem RdOK.note (K : RdOK p lo nm fl) (hn : pN p < 6) {s a b : Nat} (hs : s < 2) (ha : a < 24) (hb : b < 24) : RdOK (plO p s a b) lo nm fl := by
  refine ⟨K.O.u_no hn hs ha hb, K.L, K.len, K.nc, K.nr, fun r z x => ?_, K.sd, K.s12⟩
  rw [plO_nx]; exact K.nx r z x
end
