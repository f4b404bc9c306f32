/-! LAYER 0, the cells that are there before -/
theorem v_getsX0 {x : CX} {l : Launch} {g : CG} {M : MI} {nL k n idx : Nat} {μ : Mem} {pc : Nat} {lv : LV} {st : List AV} (C : Cx x l g M) (d : decode M.1 pc = .ok (.getstatic idx, 3)) (hl : Cond.fieldLink M.2.2.1 idx "ShareEight$Names" "FIXED_VALUES" "[I" ∈ lw_ok) (kk : V x g nL k n μ (pc + 3) lv (aX 0 :: st)) : V x g nL k n μ pc lv st := by
  obtain ⟨p, l0, e0, R, s, m, args, below, meth, c, Q⟩ := x
  intro h0 H locs ls h1 h2 h3
  exact va_gets C.1 C.2.1 (Cex C).1 h2 C.2.2.2.1 (C.2.2.2.2.1 _ hl) (fun _ z => z) d (kk h0 H locs ls h1 h2 h3)
theorem v_getsX1 {x : CX} {l : Launch} {g : CG} {M : MI} {nL k n idx : Nat} {μ : Mem} {pc : Nat} {lv : LV} {st : List AV} (C : Cx x l g M) (d : decode M.1 pc = .ok (.getstatic idx, 3)) (hl : Cond.fieldLink M.2.2.1 idx "ShareEightModel" "CODES" "[I" ∈ lw_ok) (kk : V x g nL k n μ (pc + 3) lv (aX 1 :: st)) : V x g nL k n μ pc lv st := by
  obtain ⟨p, l0, e0, R, s, m, args, below, meth, c, Q⟩ := x
  intro h0 H locs ls h1 h2 h3
  exact va_gets C.1 C.2.1 (Cex C).2.2.1 h2 C.2.2.2.1 (C.2.2.2.2.1 _ hl) (fun _ z => z) d (kk h0 H locs ls h1 h2 h3)
theorem v_getsC {x : CX} {l : Launch} {g : CG} {M : MI} {nL k n idx : Nat} {μ : Mem} {pc : Nat} {lv : LV} {st : List AV} (C : Cx x l g M) (d : decode M.1 pc = .ok (.getstatic idx, 3)) (hl : Cond.fieldLink M.2.2.1 idx "java/lang/String" "COMPACT_STRINGS" "Z" ∈ lw_ok) (kk : V x g nL k n μ (pc + 3) lv (aI 1 :: st)) : V x g nL k n μ pc lv st := by
  obtain ⟨p, l0, e0, R, s, m, args, below, meth, c, Q⟩ := x
  intro h0 H locs ls h1 h2 h3
  exact va_gets C.1 C.2.1 (Cex C).2.2.2.2.1 h2 C.2.2.2.1 (C.2.2.2.2.1 _ hl) (fun _ z => z) d (kk h0 H locs ls h1 h2 h3)
theorem v_getsF {x : CX} {l : Launch} {g : CG} {M : MI} {nL k n idx : Nat} {μ : Mem} {pc : Nat} {lv : LV} {st : List AV} (C : Cx x l g M) (d : decode M.1 pc = .ok (.getstatic idx, 3)) (hl : Cond.fieldLink M.2.2.1 idx "jdk/internal/util/Preconditions" "SIOOBE_FORMATTER" "Ljava/util/function/BiFunction;" ∈ lw_ok) (kk : ∀ o : AV, (o = aR none ∨ o = aX 30) → V x g nL k n μ (pc + 3) lv (o :: st)) : V x g nL k n μ pc lv st := by
  obtain ⟨p, l0, e0, R, s, m, args, below, meth, c, Q⟩ := x
  intro h0 H locs ls h1 h2 h3
  rcases (Cex C).2.2.2.2.2.2.2.1 with hz | hz
  · exact va_gets C.1 C.2.1 hz h2 C.2.2.2.1 (C.2.2.2.2.1 _ hl) (fun _ z => z) d (kk (aR none) (Or.inl rfl) h0 H locs ls h1 h2 h3)
  · exact va_gets C.1 C.2.1 hz h2 C.2.2.2.1 (C.2.2.2.2.1 _ hl) (fun _ z => z) d (kk (aX 30) (Or.inr rfl) h0 H locs ls h1 h2 h3)
/-- what an int array that was there holds -/
def xI (L : List Int32) (i : Int32) : Option Int32 := if i < 0 ∨ L.length ≤ i.toNatClampNeg then none else some (L.getD i.toNatClampNeg 0)
theorem v_xi0 {x : CX} {l : Launch} {g : CG} {M : MI} {nL k n : Nat} {μ : Mem} {pc : Nat} {lv : LV} {st : List AV} {i v : Int32} (C : Cx x l g M) (d : decode M.1 pc = .ok (.iaload, 1)) (e : xI x_fv i = some v) (kk : V x g nL k n μ (pc + 1) lv (aI v :: st)) : V x g nL k n μ pc lv (aI i :: aX 0 :: st) := by
  obtain ⟨p, l0, e0, R, s, m, args, below, meth, c, Q⟩ := x
  intro h0 H locs ls h1 h2 h3
  obtain ⟨hin, e⟩ := oz e
  exact va_ti C.1 C.2.1 (Cex C).2.1 h2 hin (congrArg Value.int (Option.some.inj e)) d (kk h0 H locs ls h1 h2 h3)
theorem v_xi1 {x : CX} {l : Launch} {g : CG} {M : MI} {nL k n : Nat} {μ : Mem} {pc : Nat} {lv : LV} {st : List AV} {i v : Int32} (C : Cx x l g M) (d : decode M.1 pc = .ok (.iaload, 1)) (e : xI x_cd i = some v) (kk : V x g nL k n μ (pc + 1) lv (aI v :: st)) : V x g nL k n μ pc lv (aI i :: aX 1 :: st) := by
  obtain ⟨p, l0, e0, R, s, m, args, below, meth, c, Q⟩ := x
  intro h0 H locs ls h1 h2 h3
  obtain ⟨hin, e⟩ := oz e
  exact va_ti C.1 C.2.1 (Cex C).2.2.2.1 h2 hin (congrArg Value.int (Option.some.inj e)) d (kk h0 H locs ls h1 h2 h3)
theorem v_xl0 {x : CX} {l : Launch} {g : CG} {M : MI} {nL k n : Nat} {μ : Mem} {pc : Nat} {lv : LV} {st : List AV} (C : Cx x l g M) (d : decode M.1 pc = .ok (.arraylength, 1)) (kk : V x g nL k n μ (pc + 1) lv (aI 53 :: st)) : V x g nL k n μ pc lv (aX 0 :: st) := by
  obtain ⟨p, l0, e0, R, s, m, args, below, meth, c, Q⟩ := x
  intro h0 H locs ls h1 h2 h3
  exact va_tlen C.1 C.2.1 (Cex C).2.1 h2 rfl d (kk h0 H locs ls h1 h2 h3)
/-- the law's script -/
def xS (g : CG) (i : Int32) : Option Int32 := if i < 0 ∨ g.1.2.2.1 ≤ i.toNatClampNeg then none else some (g.1.2.2.2 i.toNatClampNeg)
theorem v_xi2 {x : CX} {l : Launch} {g : CG} {M : MI} {nL k n : Nat} {μ : Mem} {pc : Nat} {lv : LV} {st : List AV} {i v : Int32} (C : Cx x l g M) (d : decode M.1 pc = .ok (.iaload, 1)) (e : xS g i = some v) (kk : V x g nL k n μ (pc + 1) lv (aI v :: st)) : V x g nL k n μ pc lv (aI i :: aX 2 :: st) := by
  obtain ⟨p, l0, e0, R, s, m, args, below, meth, c, Q⟩ := x
  intro h0 H locs ls h1 h2 h3
  obtain ⟨hin, e⟩ := oz e
  exact va_ti C.1 C.2.1 (Cex C).2.2.2.2.2.2.1 h2 hin (congrArg Value.int (Option.some.inj e)) d (kk h0 H locs ls h1 h2 h3)
theorem v_xl2 {x : CX} {l : Launch} {g : CG} {M : MI} {nL k n : Nat} {μ : Mem} {pc : Nat} {lv : LV} {st : List AV} (C : Cx x l g M) (d : decode M.1 pc = .ok (.arraylength, 1)) (kk : V x g nL k n μ (pc + 1) lv (aI (Int32.ofNat g.1.2.2.1) :: st)) : V x g nL k n μ pc lv (aX 2 :: st) := by
  obtain ⟨p, l0, e0, R, s, m, args, below, meth, c, Q⟩ := x
  intro h0 H locs ls h1 h2 h3
  exact va_tlen C.1 C.2.1 (Cex C).2.2.2.2.2.2.1 h2 rfl d (kk h0 H locs ls h1 h2 h3)
-- texts: text i is 10 + i, its bytes are 20 + i
theorem v_aloadX_n {x : CX} {l : Launch} {g : CG} {M : MI} {nL k n : Nat} {μ : Mem} {pc : Nat} {lv : LV} {st : List AV} (C : Cx x l g M) {i : Fin 4} {r : Nat} (d : decode M.1 pc = .ok (.aload_n i, 1)) (hl : lvg lv i.val = some (aX r)) (kk : V x g nL k n μ (pc + 1) lv (aX r :: st)) : V x g nL k n μ pc lv st := by
  obtain ⟨p, l0, e0, R, s, m, args, below, meth, c, Q⟩ := x
  intro h0 H locs ls h1 h2 h3
  exact lv_aload_n C.1 C.2.1 d rfl (lvg_at h3 hl) (kk h0 H locs ls h1 h2 h3)
theorem v_ldcX {x : CX} {l : Launch} {g : CG} {M : MI} {nL k n idx i : Nat} {μ : Mem} {pc : Nat} {lv : LV} {st : List AV} {tx : String} (C : Cx x l g M) (d : decode M.1 pc = .ok (.ldc idx, 2)) (hR : vk_R M.2.2.1 idx tx (g.1.2.1 i) (xs x)) (kk : V x g nL k n μ (pc + 2) lv (aX i :: st)) : V x g nL k n μ pc lv st := by
  obtain ⟨p, l0, e0, R, s, m, args, below, meth, c, Q⟩ := x
  intro h0 H locs ls h1 h2 h3
  exact va_ldcS C.1 C.2.1 C.2.2.2.1 hR d (kk h0 H locs ls h1 h2 h3)
theorem v_xval {x : CX} {l : Launch} {g : CG} {M : MI} {nL k n idx i : Nat} {μ : Mem} {pc : Nat} {lv : LV} {st : List AV} (C : Cx x l g M) (d : decode M.1 pc = .ok (.getfield idx, 3)) (hi : i < 4) (hl : Cond.fieldLink M.2.2.1 idx "java/lang/String" "value" "[B" ∈ lw_ok) (kk : V x g nL k n μ (pc + 3) lv (aX (20 + i) :: st)) : V x g nL k n μ pc lv (aX (10 + i) :: st) := by
  obtain ⟨p, l0, e0, R, s, m, args, below, meth, c, Q⟩ := x
  intro h0 H locs ls h1 h2 h3
  exact vk_getf C.1 C.2.1 ((Cex C).2.2.2.2.2.1.1 i hi).2.2.1 h2 C.2.2.2.1 (C.2.2.2.2.1 _ hl) (fun _ z => z) d (kk h0 H locs ls h1 h2 h3)
theorem v_xcod {x : CX} {l : Launch} {g : CG} {M : MI} {nL k n idx i : Nat} {μ : Mem} {pc : Nat} {lv : LV} {st : List AV} (C : Cx x l g M) (d : decode M.1 pc = .ok (.getfield idx, 3)) (hi : i < 4) (hl : Cond.fieldLink M.2.2.1 idx "java/lang/String" "coder" "B" ∈ lw_ok) (kk : V x g nL k n μ (pc + 3) lv (aI 0 :: st)) : V x g nL k n μ pc lv (aX (10 + i) :: st) := by
  obtain ⟨p, l0, e0, R, s, m, args, below, meth, c, Q⟩ := x
  intro h0 H locs ls h1 h2 h3
  exact vk_getf C.1 C.2.1 ((Cex C).2.2.2.2.2.1.1 i hi).2.1 h2 C.2.2.2.1 (C.2.2.2.2.1 _ hl) (fun _ z => z) d (kk h0 H locs ls h1 h2 h3)
theorem v_xlb {x : CX} {l : Launch} {g : CG} {M : MI} {nL k n i : Nat} {μ : Mem} {pc : Nat} {lv : LV} {st : List AV} (C : Cx x l g M) (d : decode M.1 pc = .ok (.arraylength, 1)) (hi : i < 4) (kk : V x g nL k n μ (pc + 1) lv (aI (Int32.ofNat (x_len.getD i 0)) :: st)) : V x g nL k n μ pc lv (aX (20 + i) :: st) := by
  obtain ⟨p, l0, e0, R, s, m, args, below, meth, c, Q⟩ := x
  intro h0 H locs ls h1 h2 h3
  exact va_tlen C.1 C.2.1 ((Cex C).2.2.2.2.2.1.1 i hi).2.2.2 h2 rfl d (kk h0 H locs ls h1 h2 h3)
theorem v_xbl {x : CX} {l : Launch} {g : CG} {M : MI} {nL k n i : Nat} {μ : Mem} {pc : Nat} {lv : LV} {st : List AV} {j : Int32} (C : Cx x l g M) (d : decode M.1 pc = .ok (.baload, 1)) (hi : i < 4) (hj : ¬ (j < 0 ∨ x_len.getD i 0 ≤ j.toNatClampNeg)) (kk : V x g nL k n μ (pc + 1) lv (aI ((x_byt.getD i []).getD j.toNatClampNeg 0) :: st)) : V x g nL k n μ pc lv (aI j :: aX (20 + i) :: st) := by
  obtain ⟨p, l0, e0, R, s, m, args, below, meth, c, Q⟩ := x
  intro h0 H locs ls h1 h2 h3
  exact va_tb C.1 C.2.1 ((Cex C).2.2.2.2.2.1.1 i hi).2.2.2 h2 hj rfl d (kk h0 H locs ls h1 h2 h3)
