/-! THE LAW RUNS -/
def mE (n : Nat) : qM := ((n, 0), fun _ => (0, 0), fun _ _ => 0, fun _ _ => 0, fun _ _ => none)
theorem law_run {G : qG} {p : Program} {e : Env} {s : State} {m : MethodId} {below : List Frame} {meth : Method} {c : Code} (hx : p.tables.exec = Jvm.exec) (hb : c.code = code) (hr : meth.sig.returnType = ret) (hml : c.maxLocals = 7) (hown : s.vm.findClass R_law = some m.cls) (hlocks : meth.locks = false) (hnm : meth.name = x.name) (hK : Kn G s) (hH : gH G = s.heap) (hL : (gX G).2.1 ≤ 3072) : W p (gl G) e room_1 s m #[Value.ref (gX G).1] below meth c s.heap [] 0 0 (lw_Z below #[Value.ref (gX G).1] s) (entryFrame m ([Value.ref (gX G).1] : List Value).toArray 7) := by
  have hB : gB G = s.heap.size := by show (gH G).size = _; rw [hH]
  obtain ⟨r, env', M', hfe, rfl, a1, a2, a3, a4⟩ := q_law (X := gX G) (M := mE s.heap.size) (by omega)
  have n0 : mN (mE s.heap.size) = s.heap.size := rfl
  have u0 : mU (mE s.heap.size) = 0 := rfl
  have mx : Mx G kL_law (fun H locs cells slots g => W p (gl G) e room_1 s m #[Value.ref (gX G).1] below meth c H locs cells slots (lw_Z below #[Value.ref (gX G).1] s) g) m (mN (mE s.heap.size), mU (mE s.heap.size)) (some (.int (n32 1))) M' := by
    refine ⟨p, e, room_1, s, _, below, meth, c, _, rfl, hx, hb, hml, hown, hK, hnm, rfl, rfl, ?_, ?_, ?_⟩
    · show mN M' ≤ 601024 + mN (mE s.heap.size); omega
    · show mU M' ≤ 7293034 + mU (mE s.heap.size); omega
    · intro pc ls H locs cells slots hrt o
      have o3 := o.2.2.1
      have o4 := o.2.2.2
      dsimp only at o3 o4
      refine va_forget (fun q hq => by rw [← hB]; exact o.2.1 q hq) ?_
      refine W.widen (k := 601024) (n := 7293034) (by omega) (by omega) ?_
      exact lw_ret hx hb hr hlocks hrt.1
  obtain ⟨ls, he, hLk⟩ := entryL (G := G) (K := kL_law) (vs := [.ref (gX G).1]) (show 1 ≤ 7 by decide) m
  have hcv : (([.ref (gX G).1] : List Value).map (cv G)).toArray = ([Value.ref (gX G).1] : List Value).toArray := rfl
  rw [hcv] at he
  have he : entryFrame m ([Value.ref (gX G).1] : List Value).toArray 7 = F0 m 0 ls [] := he
  rw [he]
  exact i_L_law.2 _ m _ _ M' mx (argE [.ref (gX G).1]) (mE s.heap.size) _ env' M' hfe (Nat.le_refl _) (Nat.le_refl _) (fun v' hv' => by cases hv'; exact ⟨rfl, rfl⟩) ls s.heap [] 0 0 hLk ⟨⟨n0.symm, by rw [hB]; exact Nat.le_refl _, fun q _ => by rw [hH], fun a ha => absurd rfl ha⟩, (fun q hq => by cases hq), Nat.zero_add _, Nat.zero_add _⟩ (fun t hex => by cases hex)
