theorem v_ldcw {x : CX} {l : Launch} {g : CG} {M : MI} {nL k n : Nat} {μ : Mem} {pc : Nat} {lv : LV} {st : List AV} (C : Cx x l g M) {idx : Nat} {v : Int32} (d : decode M.1 pc = .ok (.ldc_w idx, 3)) (hc : Cond.constant M.2.2.1 idx v ∈ lw_ok) (kk : V x g nL k n μ (pc + 3) lv (aI v :: st)) : V x g nL k n μ pc lv st := by
  obtain ⟨p, l0, e, R, s, m, args, below, meth, c, Q⟩ := x
  intro h0 H locs ls h1 h2 h3
  exact lv_ldcw C.1 C.2.1 C.2.2.2.1 (C.2.2.2.2.1 _ hc) d (kk h0 H locs ls h1 h2 h3)
