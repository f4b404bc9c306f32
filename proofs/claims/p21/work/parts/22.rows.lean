theorem v_null {x : CX} {l : Launch} {g : CG} {M : MI} {nL k n : Nat} {μ : Mem} {pc : Nat} {lv : LV} {st : List AV} (C : Cx x l g M)  (d : decode M.1 pc = .ok (.aconst_null, 1)) (kk : V x g nL k n μ (pc + 1) lv (aR none :: st)) : V x g nL k n μ pc lv st := by
  obtain ⟨p, l0, e, R, s, m, args, below, meth, c, Q⟩ := x
  intro h0 H locs ls h1 h2 h3
  exact lv_null C.1 C.2.1 d (kk h0 H locs ls h1 h2 h3)
theorem v_iconst {x : CX} {l : Launch} {g : CG} {M : MI} {nL k n : Nat} {μ : Mem} {pc : Nat} {lv : LV} {st : List AV} (C : Cx x l g M) {z : Int} {v : Int32} (d : decode M.1 pc = .ok (.iconst z, 1)) (hv : Int32.ofInt z = v) (kk : V x g nL k n μ (pc + 1) lv (aI v :: st)) : V x g nL k n μ pc lv st := by
  obtain ⟨p, l0, e, R, s, m, args, below, meth, c, Q⟩ := x
  intro h0 H locs ls h1 h2 h3
  exact lv_iconst C.1 C.2.1 d hv (kk h0 H locs ls h1 h2 h3)
theorem v_bipush {x : CX} {l : Launch} {g : CG} {M : MI} {nL k n : Nat} {μ : Mem} {pc : Nat} {lv : LV} {st : List AV} (C : Cx x l g M) {z : Int} {v : Int32} (d : decode M.1 pc = .ok (.bipush z, 2)) (hv : (Int8.ofInt z).toInt32 = v) (kk : V x g nL k n μ (pc + 2) lv (aI v :: st)) : V x g nL k n μ pc lv st := by
  obtain ⟨p, l0, e, R, s, m, args, below, meth, c, Q⟩ := x
  intro h0 H locs ls h1 h2 h3
  exact lv_bipush C.1 C.2.1 d hv (kk h0 H locs ls h1 h2 h3)
theorem v_sipush {x : CX} {l : Launch} {g : CG} {M : MI} {nL k n : Nat} {μ : Mem} {pc : Nat} {lv : LV} {st : List AV} (C : Cx x l g M) {z : Int} {v : Int32} (d : decode M.1 pc = .ok (.sipush z, 3)) (hv : (Int16.ofInt z).toInt32 = v) (kk : V x g nL k n μ (pc + 3) lv (aI v :: st)) : V x g nL k n μ pc lv st := by
  obtain ⟨p, l0, e, R, s, m, args, below, meth, c, Q⟩ := x
  intro h0 H locs ls h1 h2 h3
  exact lv_sipush C.1 C.2.1 d hv (kk h0 H locs ls h1 h2 h3)
theorem v_lconst {x : CX} {l : Launch} {g : CG} {M : MI} {nL k n : Nat} {μ : Mem} {pc : Nat} {lv : LV} {st : List AV} (C : Cx x l g M) {z : Fin 2} {v : Int64} (d : decode M.1 pc = .ok (.lconst z, 1)) (hv : Int64.ofNat (z : Nat) = v) (kk : V x g nL k n μ (pc + 1) lv (aJ v :: st)) : V x g nL k n μ pc lv st := by
  obtain ⟨p, l0, e, R, s, m, args, below, meth, c, Q⟩ := x
  intro h0 H locs ls h1 h2 h3
  exact lv_lconst C.1 C.2.1 d hv (kk h0 H locs ls h1 h2 h3)
theorem v_ldc {x : CX} {l : Launch} {g : CG} {M : MI} {nL k n : Nat} {μ : Mem} {pc : Nat} {lv : LV} {st : List AV} (C : Cx x l g M) {idx : Nat} {v : Int32} (d : decode M.1 pc = .ok (.ldc idx, 2)) (hc : Cond.constant M.2.2.1 idx v ∈ lw_ok) (kk : V x g nL k n μ (pc + 2) lv (aI v :: st)) : V x g nL k n μ pc lv st := by
  obtain ⟨p, l0, e, R, s, m, args, below, meth, c, Q⟩ := x
  intro h0 H locs ls h1 h2 h3
  exact lv_ldc C.1 C.2.1 C.2.2.2.1 (C.2.2.2.2.1 _ hc) d (kk h0 H locs ls h1 h2 h3)
theorem v_iadd {x : CX} {l : Launch} {g : CG} {M : MI} {nL k n : Nat} {μ : Mem} {pc : Nat} {lv : LV} {st : List AV} (C : Cx x l g M) {a b : Int32} (d : decode M.1 pc = .ok (.iadd, 1)) (kk : V x g nL k n μ (pc + 1) lv (aI (a + b) :: st)) : V x g nL k n μ pc lv (aI b :: aI a :: st) := by
  obtain ⟨p, l0, e, R, s, m, args, below, meth, c, Q⟩ := x
  intro h0 H locs ls h1 h2 h3
  exact lv_iadd C.1 C.2.1 d (kk h0 H locs ls h1 h2 h3)
theorem v_isub {x : CX} {l : Launch} {g : CG} {M : MI} {nL k n : Nat} {μ : Mem} {pc : Nat} {lv : LV} {st : List AV} (C : Cx x l g M) {a b : Int32} (d : decode M.1 pc = .ok (.isub, 1)) (kk : V x g nL k n μ (pc + 1) lv (aI (a - b) :: st)) : V x g nL k n μ pc lv (aI b :: aI a :: st) := by
  obtain ⟨p, l0, e, R, s, m, args, below, meth, c, Q⟩ := x
  intro h0 H locs ls h1 h2 h3
  exact lv_isub C.1 C.2.1 d (kk h0 H locs ls h1 h2 h3)
theorem v_imul {x : CX} {l : Launch} {g : CG} {M : MI} {nL k n : Nat} {μ : Mem} {pc : Nat} {lv : LV} {st : List AV} (C : Cx x l g M) {a b : Int32} (d : decode M.1 pc = .ok (.imul, 1)) (kk : V x g nL k n μ (pc + 1) lv (aI (a * b) :: st)) : V x g nL k n μ pc lv (aI b :: aI a :: st) := by
  obtain ⟨p, l0, e, R, s, m, args, below, meth, c, Q⟩ := x
  intro h0 H locs ls h1 h2 h3
  exact lv_imul C.1 C.2.1 d (kk h0 H locs ls h1 h2 h3)
theorem v_iand {x : CX} {l : Launch} {g : CG} {M : MI} {nL k n : Nat} {μ : Mem} {pc : Nat} {lv : LV} {st : List AV} (C : Cx x l g M) {a b : Int32} (d : decode M.1 pc = .ok (.iand, 1)) (kk : V x g nL k n μ (pc + 1) lv (aI (a &&& b) :: st)) : V x g nL k n μ pc lv (aI b :: aI a :: st) := by
  obtain ⟨p, l0, e, R, s, m, args, below, meth, c, Q⟩ := x
  intro h0 H locs ls h1 h2 h3
  exact lv_iand C.1 C.2.1 d (kk h0 H locs ls h1 h2 h3)
theorem v_ior {x : CX} {l : Launch} {g : CG} {M : MI} {nL k n : Nat} {μ : Mem} {pc : Nat} {lv : LV} {st : List AV} (C : Cx x l g M) {a b : Int32} (d : decode M.1 pc = .ok (.ior, 1)) (kk : V x g nL k n μ (pc + 1) lv (aI (a ||| b) :: st)) : V x g nL k n μ pc lv (aI b :: aI a :: st) := by
  obtain ⟨p, l0, e, R, s, m, args, below, meth, c, Q⟩ := x
  intro h0 H locs ls h1 h2 h3
  exact lv_ior C.1 C.2.1 d (kk h0 H locs ls h1 h2 h3)
theorem v_ixor {x : CX} {l : Launch} {g : CG} {M : MI} {nL k n : Nat} {μ : Mem} {pc : Nat} {lv : LV} {st : List AV} (C : Cx x l g M) {a b : Int32} (d : decode M.1 pc = .ok (.ixor, 1)) (kk : V x g nL k n μ (pc + 1) lv (aI (a ^^^ b) :: st)) : V x g nL k n μ pc lv (aI b :: aI a :: st) := by
  obtain ⟨p, l0, e, R, s, m, args, below, meth, c, Q⟩ := x
  intro h0 H locs ls h1 h2 h3
  exact lv_ixor C.1 C.2.1 d (kk h0 H locs ls h1 h2 h3)
theorem v_ladd {x : CX} {l : Launch} {g : CG} {M : MI} {nL k n : Nat} {μ : Mem} {pc : Nat} {lv : LV} {st : List AV} (C : Cx x l g M) {a b : Int64} (d : decode M.1 pc = .ok (.ladd, 1)) (kk : V x g nL k n μ (pc + 1) lv (aJ (a + b) :: st)) : V x g nL k n μ pc lv (aJ b :: aJ a :: st) := by
  obtain ⟨p, l0, e, R, s, m, args, below, meth, c, Q⟩ := x
  intro h0 H locs ls h1 h2 h3
  exact lv_ladd C.1 C.2.1 d (kk h0 H locs ls h1 h2 h3)
theorem v_lsub {x : CX} {l : Launch} {g : CG} {M : MI} {nL k n : Nat} {μ : Mem} {pc : Nat} {lv : LV} {st : List AV} (C : Cx x l g M) {a b : Int64} (d : decode M.1 pc = .ok (.lsub, 1)) (kk : V x g nL k n μ (pc + 1) lv (aJ (a - b) :: st)) : V x g nL k n μ pc lv (aJ b :: aJ a :: st) := by
  obtain ⟨p, l0, e, R, s, m, args, below, meth, c, Q⟩ := x
  intro h0 H locs ls h1 h2 h3
  exact lv_lsub C.1 C.2.1 d (kk h0 H locs ls h1 h2 h3)
theorem v_lmul {x : CX} {l : Launch} {g : CG} {M : MI} {nL k n : Nat} {μ : Mem} {pc : Nat} {lv : LV} {st : List AV} (C : Cx x l g M) {a b : Int64} (d : decode M.1 pc = .ok (.lmul, 1)) (kk : V x g nL k n μ (pc + 1) lv (aJ (a * b) :: st)) : V x g nL k n μ pc lv (aJ b :: aJ a :: st) := by
  obtain ⟨p, l0, e, R, s, m, args, below, meth, c, Q⟩ := x
  intro h0 H locs ls h1 h2 h3
  exact lv_lmul C.1 C.2.1 d (kk h0 H locs ls h1 h2 h3)
theorem v_land {x : CX} {l : Launch} {g : CG} {M : MI} {nL k n : Nat} {μ : Mem} {pc : Nat} {lv : LV} {st : List AV} (C : Cx x l g M) {a b : Int64} (d : decode M.1 pc = .ok (.land, 1)) (kk : V x g nL k n μ (pc + 1) lv (aJ (a &&& b) :: st)) : V x g nL k n μ pc lv (aJ b :: aJ a :: st) := by
  obtain ⟨p, l0, e, R, s, m, args, below, meth, c, Q⟩ := x
  intro h0 H locs ls h1 h2 h3
  exact lv_land C.1 C.2.1 d (kk h0 H locs ls h1 h2 h3)
theorem v_lor {x : CX} {l : Launch} {g : CG} {M : MI} {nL k n : Nat} {μ : Mem} {pc : Nat} {lv : LV} {st : List AV} (C : Cx x l g M) {a b : Int64} (d : decode M.1 pc = .ok (.lor, 1)) (kk : V x g nL k n μ (pc + 1) lv (aJ (a ||| b) :: st)) : V x g nL k n μ pc lv (aJ b :: aJ a :: st) := by
  obtain ⟨p, l0, e, R, s, m, args, below, meth, c, Q⟩ := x
  intro h0 H locs ls h1 h2 h3
  exact lv_lor C.1 C.2.1 d (kk h0 H locs ls h1 h2 h3)
theorem v_lxor {x : CX} {l : Launch} {g : CG} {M : MI} {nL k n : Nat} {μ : Mem} {pc : Nat} {lv : LV} {st : List AV} (C : Cx x l g M) {a b : Int64} (d : decode M.1 pc = .ok (.lxor, 1)) (kk : V x g nL k n μ (pc + 1) lv (aJ (a ^^^ b) :: st)) : V x g nL k n μ pc lv (aJ b :: aJ a :: st) := by
  obtain ⟨p, l0, e, R, s, m, args, below, meth, c, Q⟩ := x
  intro h0 H locs ls h1 h2 h3
  exact lv_lxor C.1 C.2.1 d (kk h0 H locs ls h1 h2 h3)
theorem v_idiv {x : CX} {l : Launch} {g : CG} {M : MI} {nL k n : Nat} {μ : Mem} {pc : Nat} {lv : LV} {st : List AV} (C : Cx x l g M) {a b : Int32} (d : decode M.1 pc = .ok (.idiv, 1)) (hz : ¬ b = 0) (kk : V x g nL k n μ (pc + 1) lv (aI (a / b) :: st)) : V x g nL k n μ pc lv (aI b :: aI a :: st) := by
  obtain ⟨p, l0, e, R, s, m, args, below, meth, c, Q⟩ := x
  intro h0 H locs ls h1 h2 h3
  exact lv_idiv C.1 C.2.1 d hz (kk h0 H locs ls h1 h2 h3)
theorem v_irem {x : CX} {l : Launch} {g : CG} {M : MI} {nL k n : Nat} {μ : Mem} {pc : Nat} {lv : LV} {st : List AV} (C : Cx x l g M) {a b : Int32} (d : decode M.1 pc = .ok (.irem, 1)) (hz : ¬ b = 0) (kk : V x g nL k n μ (pc + 1) lv (aI (a - a / b * b) :: st)) : V x g nL k n μ pc lv (aI b :: aI a :: st) := by
  obtain ⟨p, l0, e, R, s, m, args, below, meth, c, Q⟩ := x
  intro h0 H locs ls h1 h2 h3
  exact lv_irem C.1 C.2.1 d hz (kk h0 H locs ls h1 h2 h3)
theorem v_ineg {x : CX} {l : Launch} {g : CG} {M : MI} {nL k n : Nat} {μ : Mem} {pc : Nat} {lv : LV} {st : List AV} (C : Cx x l g M) {a : Int32} (d : decode M.1 pc = .ok (.ineg, 1)) (kk : V x g nL k n μ (pc + 1) lv (aI (-a) :: st)) : V x g nL k n μ pc lv (aI a :: st) := by
  obtain ⟨p, l0, e, R, s, m, args, below, meth, c, Q⟩ := x
  intro h0 H locs ls h1 h2 h3
  exact lv_ineg C.1 C.2.1 d (kk h0 H locs ls h1 h2 h3)
theorem v_ishl {x : CX} {l : Launch} {g : CG} {M : MI} {nL k n : Nat} {μ : Mem} {pc : Nat} {lv : LV} {st : List AV} (C : Cx x l g M) {a b : Int32} (d : decode M.1 pc = .ok (.ishl, 1)) (kk : V x g nL k n μ (pc + 1) lv (aI (a <<< (b &&& 31)) :: st)) : V x g nL k n μ pc lv (aI b :: aI a :: st) := by
  obtain ⟨p, l0, e, R, s, m, args, below, meth, c, Q⟩ := x
  intro h0 H locs ls h1 h2 h3
  exact lv_ishl C.1 C.2.1 d (kk h0 H locs ls h1 h2 h3)
theorem v_ishr {x : CX} {l : Launch} {g : CG} {M : MI} {nL k n : Nat} {μ : Mem} {pc : Nat} {lv : LV} {st : List AV} (C : Cx x l g M) {a b : Int32} (d : decode M.1 pc = .ok (.ishr, 1)) (kk : V x g nL k n μ (pc + 1) lv (aI (a >>> (b &&& 31)) :: st)) : V x g nL k n μ pc lv (aI b :: aI a :: st) := by
  obtain ⟨p, l0, e, R, s, m, args, below, meth, c, Q⟩ := x
  intro h0 H locs ls h1 h2 h3
  exact lv_ishr C.1 C.2.1 d (kk h0 H locs ls h1 h2 h3)
theorem v_iushr {x : CX} {l : Launch} {g : CG} {M : MI} {nL k n : Nat} {μ : Mem} {pc : Nat} {lv : LV} {st : List AV} (C : Cx x l g M) {a b : Int32} (d : decode M.1 pc = .ok (.iushr, 1)) (kk : V x g nL k n μ (pc + 1) lv (aI ((a.toUInt32 >>> (b.toUInt32 &&& Int32.toUInt32 31)).toInt32) :: st)) : V x g nL k n μ pc lv (aI b :: aI a :: st) := by
  obtain ⟨p, l0, e, R, s, m, args, below, meth, c, Q⟩ := x
  intro h0 H locs ls h1 h2 h3
  exact lv_iushr C.1 C.2.1 d rfl (kk h0 H locs ls h1 h2 h3)
theorem v_lshl {x : CX} {l : Launch} {g : CG} {M : MI} {nL k n : Nat} {μ : Mem} {pc : Nat} {lv : LV} {st : List AV} (C : Cx x l g M) {a : Int64} {b : Int32} (d : decode M.1 pc = .ok (.lshl, 1)) (kk : V x g nL k n μ (pc + 1) lv (aJ (a <<< (b.toInt64 &&& 63)) :: st)) : V x g nL k n μ pc lv (aI b :: aJ a :: st) := by
  obtain ⟨p, l0, e, R, s, m, args, below, meth, c, Q⟩ := x
  intro h0 H locs ls h1 h2 h3
  exact lv_lshl C.1 C.2.1 d rfl (kk h0 H locs ls h1 h2 h3)
theorem v_i2l {x : CX} {l : Launch} {g : CG} {M : MI} {nL k n : Nat} {μ : Mem} {pc : Nat} {lv : LV} {st : List AV} (C : Cx x l g M) {a : Int32} (d : decode M.1 pc = .ok (.i2l, 1)) (kk : V x g nL k n μ (pc + 1) lv (aJ a.toInt64 :: st)) : V x g nL k n μ pc lv (aI a :: st) := by
  obtain ⟨p, l0, e, R, s, m, args, below, meth, c, Q⟩ := x
  intro h0 H locs ls h1 h2 h3
  exact lv_i2l C.1 C.2.1 d rfl (kk h0 H locs ls h1 h2 h3)
theorem v_i2c {x : CX} {l : Launch} {g : CG} {M : MI} {nL k n : Nat} {μ : Mem} {pc : Nat} {lv : LV} {st : List AV} (C : Cx x l g M) {a : Int32} (d : decode M.1 pc = .ok (.i2c, 1)) (kk : V x g nL k n μ (pc + 1) lv (aI (a.toUInt32 % 65536).toInt32 :: st)) : V x g nL k n μ pc lv (aI a :: st) := by
  obtain ⟨p, l0, e, R, s, m, args, below, meth, c, Q⟩ := x
  intro h0 H locs ls h1 h2 h3
  exact lv_i2c C.1 C.2.1 d rfl (kk h0 H locs ls h1 h2 h3)
theorem v_lcmp {x : CX} {l : Launch} {g : CG} {M : MI} {nL k n : Nat} {μ : Mem} {pc : Nat} {lv : LV} {st : List AV} (C : Cx x l g M) {a b : Int64} (d : decode M.1 pc = .ok (.lcmp, 1)) (kk : V x g nL k n μ (pc + 1) lv (aI (lg_cmp a b) :: st)) : V x g nL k n μ pc lv (aJ b :: aJ a :: st) := by
  obtain ⟨p, l0, e, R, s, m, args, below, meth, c, Q⟩ := x
  intro h0 H locs ls h1 h2 h3
  exact W.lcmp C.1 C.2.1 d (kk h0 H locs ls h1 h2 h3)
theorem v_dup {x : CX} {l : Launch} {g : CG} {M : MI} {nL k n : Nat} {μ : Mem} {pc : Nat} {lv : LV} {st : List AV} (C : Cx x l g M) {a : AV} (d : decode M.1 pc = .ok (.dup, 1)) (hw : av_w a = false) (kk : V x g nL k n μ (pc + 1) lv (a :: a :: st)) : V x g nL k n μ pc lv (a :: st) := by
  obtain ⟨p, l0, e, R, s, m, args, below, meth, c, Q⟩ := x
  intro h0 H locs ls h1 h2 h3
  exact lv_dup C.1 C.2.1 d (av_cat1 g.1 a hw) (kk h0 H locs ls h1 h2 h3)
theorem v_dup_x1 {x : CX} {l : Launch} {g : CG} {M : MI} {nL k n : Nat} {μ : Mem} {pc : Nat} {lv : LV} {st : List AV} (C : Cx x l g M) {a b : AV} (d : decode M.1 pc = .ok (.dup_x1, 1)) (hw : av_w a = false) (hw2 : av_w b = false) (kk : V x g nL k n μ (pc + 1) lv (a :: b :: a :: st)) : V x g nL k n μ pc lv (a :: b :: st) := by
  obtain ⟨p, l0, e, R, s, m, args, below, meth, c, Q⟩ := x
  intro h0 H locs ls h1 h2 h3
  exact lv_dup_x1 C.1 C.2.1 d (av_cat1 g.1 a hw) (av_cat1 g.1 b hw2) (kk h0 H locs ls h1 h2 h3)
theorem v_dup2 {x : CX} {l : Launch} {g : CG} {M : MI} {nL k n : Nat} {μ : Mem} {pc : Nat} {lv : LV} {st : List AV} (C : Cx x l g M) {a b : AV} (d : decode M.1 pc = .ok (.dup2, 1)) (hw : av_w a = false) (hw2 : av_w b = false) (kk : V x g nL k n μ (pc + 1) lv (a :: b :: a :: b :: st)) : V x g nL k n μ pc lv (a :: b :: st) := by
  obtain ⟨p, l0, e, R, s, m, args, below, meth, c, Q⟩ := x
  intro h0 H locs ls h1 h2 h3
  exact lv_dup2_11 C.1 C.2.1 d (av_cat1 g.1 a hw) (av_cat1 g.1 b hw2) (kk h0 H locs ls h1 h2 h3)
theorem v_pop {x : CX} {l : Launch} {g : CG} {M : MI} {nL k n : Nat} {μ : Mem} {pc : Nat} {lv : LV} {st : List AV} (C : Cx x l g M) {a : AV} (d : decode M.1 pc = .ok (.pop, 1)) (hw : av_w a = false) (kk : V x g nL k n μ (pc + 1) lv st) : V x g nL k n μ pc lv (a :: st) := by
  obtain ⟨p, l0, e, R, s, m, args, below, meth, c, Q⟩ := x
  intro h0 H locs ls h1 h2 h3
  exact lv_pop C.1 C.2.1 d (av_cat1 g.1 a hw) (kk h0 H locs ls h1 h2 h3)
theorem v_iload_n {x : CX} {l : Launch} {g : CG} {M : MI} {nL k n : Nat} {μ : Mem} {pc : Nat} {lv : LV} {st : List AV} (C : Cx x l g M) {i : Fin 4} {v : Int32} (d : decode M.1 pc = .ok (.iload_n i, 1)) (hl : lvg lv i.val = some (aI v)) (kk : V x g nL k n μ (pc + 1) lv (aI v :: st)) : V x g nL k n μ pc lv st := by
  obtain ⟨p, l0, e, R, s, m, args, below, meth, c, Q⟩ := x
  intro h0 H locs ls h1 h2 h3
  exact lv_iload_n C.1 C.2.1 d rfl (lvg_at h3 hl) (kk h0 H locs ls h1 h2 h3)
theorem v_iload {x : CX} {l : Launch} {g : CG} {M : MI} {nL k n : Nat} {μ : Mem} {pc : Nat} {lv : LV} {st : List AV} (C : Cx x l g M) {i : Nat} {v : Int32} (d : decode M.1 pc = .ok (.iload i, 2)) (hl : lvg lv i = some (aI v)) (kk : V x g nL k n μ (pc + 2) lv (aI v :: st)) : V x g nL k n μ pc lv st := by
  obtain ⟨p, l0, e, R, s, m, args, below, meth, c, Q⟩ := x
  intro h0 H locs ls h1 h2 h3
  exact lv_iload C.1 C.2.1 d (lvg_at h3 hl) (kk h0 H locs ls h1 h2 h3)
theorem v_lload_n {x : CX} {l : Launch} {g : CG} {M : MI} {nL k n : Nat} {μ : Mem} {pc : Nat} {lv : LV} {st : List AV} (C : Cx x l g M) {i : Fin 4} {v : Int64} (d : decode M.1 pc = .ok (.lload_n i, 1)) (hl : lvg lv i.val = some (aJ v)) (kk : V x g nL k n μ (pc + 1) lv (aJ v :: st)) : V x g nL k n μ pc lv st := by
  obtain ⟨p, l0, e, R, s, m, args, below, meth, c, Q⟩ := x
  intro h0 H locs ls h1 h2 h3
  exact lv_lload_n C.1 C.2.1 d rfl (lvg_at h3 hl) (kk h0 H locs ls h1 h2 h3)
theorem v_lload {x : CX} {l : Launch} {g : CG} {M : MI} {nL k n : Nat} {μ : Mem} {pc : Nat} {lv : LV} {st : List AV} (C : Cx x l g M) {i : Nat} {v : Int64} (d : decode M.1 pc = .ok (.lload i, 2)) (hl : lvg lv i = some (aJ v)) (kk : V x g nL k n μ (pc + 2) lv (aJ v :: st)) : V x g nL k n μ pc lv st := by
  obtain ⟨p, l0, e, R, s, m, args, below, meth, c, Q⟩ := x
  intro h0 H locs ls h1 h2 h3
  exact lv_lload C.1 C.2.1 d (lvg_at h3 hl) (kk h0 H locs ls h1 h2 h3)
theorem v_aload_n {x : CX} {l : Launch} {g : CG} {M : MI} {nL k n : Nat} {μ : Mem} {pc : Nat} {lv : LV} {st : List AV} (C : Cx x l g M) {i : Fin 4} {r : Option Nat} (d : decode M.1 pc = .ok (.aload_n i, 1)) (hl : lvg lv i.val = some (aR r)) (kk : V x g nL k n μ (pc + 1) lv (aR r :: st)) : V x g nL k n μ pc lv st := by
  obtain ⟨p, l0, e, R, s, m, args, below, meth, c, Q⟩ := x
  intro h0 H locs ls h1 h2 h3
  cases r with
  | none => exact lv_aload_nN C.1 C.2.1 d rfl (lvg_at h3 hl) (kk h0 H locs ls h1 h2 h3)
  | some a => exact lv_aload_n C.1 C.2.1 d rfl (lvg_at h3 hl) (kk h0 H locs ls h1 h2 h3)
theorem v_aload {x : CX} {l : Launch} {g : CG} {M : MI} {nL k n : Nat} {μ : Mem} {pc : Nat} {lv : LV} {st : List AV} (C : Cx x l g M) {i : Nat} {r : Option Nat} (d : decode M.1 pc = .ok (.aload i, 2)) (hl : lvg lv i = some (aR r)) (kk : V x g nL k n μ (pc + 2) lv (aR r :: st)) : V x g nL k n μ pc lv st := by
  obtain ⟨p, l0, e, R, s, m, args, below, meth, c, Q⟩ := x
  intro h0 H locs ls h1 h2 h3
  cases r with
  | none => exact lv_aloadN C.1 C.2.1 d (lvg_at h3 hl) (kk h0 H locs ls h1 h2 h3)
  | some a => exact lv_aload C.1 C.2.1 d (lvg_at h3 hl) (kk h0 H locs ls h1 h2 h3)
theorem v_istore_n {x : CX} {l : Launch} {g : CG} {M : MI} {nL k n : Nat} {μ : Mem} {pc : Nat} {lv : LV} {st : List AV} (C : Cx x l g M) {i : Fin 4} {v : Int32} (d : decode M.1 pc = .ok (.istore_n i, 1)) (hn : i.val < nL) (kk : V x g nL k n μ (pc + 1) (lvs lv i.val (aI v)) st) : V x g nL k n μ pc lv (aI v :: st) := by
  obtain ⟨p, l0, e, R, s, m, args, below, meth, c, Q⟩ := x
  intro h0 H locs ls h1 h2 h3
  exact lv_istore_n C.1 C.2.1 d rfl h3 hn (lvm_s g.1 lv i.val (aI v)) (fun ls2 h4 => kk h0 H locs ls2 h1 h2 h4)
theorem v_istore {x : CX} {l : Launch} {g : CG} {M : MI} {nL k n : Nat} {μ : Mem} {pc : Nat} {lv : LV} {st : List AV} (C : Cx x l g M) {i : Nat} {v : Int32} (d : decode M.1 pc = .ok (.istore i, 2)) (hn : i < nL) (kk : V x g nL k n μ (pc + 2) (lvs lv i (aI v)) st) : V x g nL k n μ pc lv (aI v :: st) := by
  obtain ⟨p, l0, e, R, s, m, args, below, meth, c, Q⟩ := x
  intro h0 H locs ls h1 h2 h3
  exact lv_istore C.1 C.2.1 d h3 hn (lvm_s g.1 lv i (aI v)) (fun ls2 h4 => kk h0 H locs ls2 h1 h2 h4)
theorem v_lstore_n {x : CX} {l : Launch} {g : CG} {M : MI} {nL k n : Nat} {μ : Mem} {pc : Nat} {lv : LV} {st : List AV} (C : Cx x l g M) {i : Fin 4} {v : Int64} (d : decode M.1 pc = .ok (.lstore_n i, 1)) (hn : i.val + 1 < nL) (kk : V x g nL k n μ (pc + 1) (lvs2 lv i.val (aJ v)) st) : V x g nL k n μ pc lv (aJ v :: st) := by
  obtain ⟨p, l0, e, R, s, m, args, below, meth, c, Q⟩ := x
  intro h0 H locs ls h1 h2 h3
  exact lv_lstore_n C.1 C.2.1 d rfl h3 hn (lvm_s2 g.1 lv i.val (aJ v)) (fun ls2 h4 => kk h0 H locs ls2 h1 h2 h4)
theorem v_lstore {x : CX} {l : Launch} {g : CG} {M : MI} {nL k n : Nat} {μ : Mem} {pc : Nat} {lv : LV} {st : List AV} (C : Cx x l g M) {i : Nat} {v : Int64} (d : decode M.1 pc = .ok (.lstore i, 2)) (hn : i + 1 < nL) (kk : V x g nL k n μ (pc + 2) (lvs2 lv i (aJ v)) st) : V x g nL k n μ pc lv (aJ v :: st) := by
  obtain ⟨p, l0, e, R, s, m, args, below, meth, c, Q⟩ := x
  intro h0 H locs ls h1 h2 h3
  exact lv_lstore C.1 C.2.1 d h3 hn (lvm_s2 g.1 lv i (aJ v)) (fun ls2 h4 => kk h0 H locs ls2 h1 h2 h4)
theorem v_astore_n {x : CX} {l : Launch} {g : CG} {M : MI} {nL k n : Nat} {μ : Mem} {pc : Nat} {lv : LV} {st : List AV} (C : Cx x l g M) {i : Fin 4} {r : Option Nat} (d : decode M.1 pc = .ok (.astore_n i, 1)) (hn : i.val < nL) (kk : V x g nL k n μ (pc + 1) (lvs lv i.val (aR r)) st) : V x g nL k n μ pc lv (aR r :: st) := by
  obtain ⟨p, l0, e, R, s, m, args, below, meth, c, Q⟩ := x
  intro h0 H locs ls h1 h2 h3
  cases r with
  | none => exact lv_astore_nN C.1 C.2.1 d rfl h3 hn (lvm_s g.1 lv i.val (aR none)) (fun ls2 h4 => kk h0 H locs ls2 h1 h2 h4)
  | some a => exact lv_astore_n C.1 C.2.1 d rfl h3 hn (lvm_s g.1 lv i.val (aR (some a))) (fun ls2 h4 => kk h0 H locs ls2 h1 h2 h4)
theorem v_astore {x : CX} {l : Launch} {g : CG} {M : MI} {nL k n : Nat} {μ : Mem} {pc : Nat} {lv : LV} {st : List AV} (C : Cx x l g M) {i : Nat} {r : Option Nat} (d : decode M.1 pc = .ok (.astore i, 2)) (hn : i < nL) (kk : V x g nL k n μ (pc + 2) (lvs lv i (aR r)) st) : V x g nL k n μ pc lv (aR r :: st) := by
  obtain ⟨p, l0, e, R, s, m, args, below, meth, c, Q⟩ := x
  intro h0 H locs ls h1 h2 h3
  cases r with
  | none => exact lv_astoreN C.1 C.2.1 d h3 hn (lvm_s g.1 lv i (aR none)) (fun ls2 h4 => kk h0 H locs ls2 h1 h2 h4)
  | some a => exact lv_astore C.1 C.2.1 d h3 hn (lvm_s g.1 lv i (aR (some a))) (fun ls2 h4 => kk h0 H locs ls2 h1 h2 h4)
theorem v_iinc {x : CX} {l : Launch} {g : CG} {M : MI} {nL k n : Nat} {μ : Mem} {pc : Nat} {lv : LV} {st : List AV} (C : Cx x l g M) {i : Nat} {z : Int} {a w : Int32} (d : decode M.1 pc = .ok (.iinc i z, 3)) (hl : lvg lv i = some (aI a)) (hv : Int32.ofInt z = w) (hn : i < nL) (kk : V x g nL k n μ (pc + 3) (lvs lv i (aI (a + w))) st) : V x g nL k n μ pc lv st := by
  obtain ⟨p, l0, e, R, s, m, args, below, meth, c, Q⟩ := x
  intro h0 H locs ls h1 h2 h3
  obtain ⟨j, hj⟩ := List.getElem?_of_mem (List.mem_map.mpr ⟨(i, aI a), lvg_mem hl, rfl⟩ : (i, av_v g.1 (aI a)) ∈ lvm g.1 lv)
  exact lv_iinc C.1 C.2.1 d h3 hj (by rw [hv]) hn (lvm_s g.1 lv i (aI (a + w))) (fun ls2 h4 => kk h0 H locs ls2 h1 h2 h4)
theorem v_icmp_eq {x : CX} {l : Launch} {g : CG} {M : MI} {nL k n : Nat} {μ : Mem} {pc : Nat} {lv : LV} {st : List AV} (C : Cx x l g M) {a b : Int32} {off : Int} {tgt : Nat} (d : decode M.1 pc = .ok (.if_icmp .eq off, 3)) (ht : (pc : Int) + off = (tgt : Int)) (kt : a = b → V x g nL k n μ tgt lv st) (kf : ¬ (a = b) → V x g nL k n μ (pc + 3) lv st) : V x g nL k n μ pc lv (aI b :: aI a :: st) := by
  obtain ⟨p, l0, e, R, s, m, args, below, meth, c, Q⟩ := x
  intro h0 H locs ls h1 h2 h3
  exact lv_icmp_eq C.1 C.2.1 d ht (fun q => kt q h0 H locs ls h1 h2 h3) (fun q => kf q h0 H locs ls h1 h2 h3)
theorem v_if_eq {x : CX} {l : Launch} {g : CG} {M : MI} {nL k n : Nat} {μ : Mem} {pc : Nat} {lv : LV} {st : List AV} (C : Cx x l g M) {a : Int32} {off : Int} {tgt : Nat} (d : decode M.1 pc = .ok (.ifCond .eq off, 3)) (ht : (pc : Int) + off = (tgt : Int)) (kt : a = 0 → V x g nL k n μ tgt lv st) (kf : ¬ (a = 0) → V x g nL k n μ (pc + 3) lv st) : V x g nL k n μ pc lv (aI a :: st) := by
  obtain ⟨p, l0, e, R, s, m, args, below, meth, c, Q⟩ := x
  intro h0 H locs ls h1 h2 h3
  exact lv_if_eq C.1 C.2.1 d ht (fun q => kt q h0 H locs ls h1 h2 h3) (fun q => kf q h0 H locs ls h1 h2 h3)
theorem v_icmp_ne {x : CX} {l : Launch} {g : CG} {M : MI} {nL k n : Nat} {μ : Mem} {pc : Nat} {lv : LV} {st : List AV} (C : Cx x l g M) {a b : Int32} {off : Int} {tgt : Nat} (d : decode M.1 pc = .ok (.if_icmp .ne off, 3)) (ht : (pc : Int) + off = (tgt : Int)) (kt : ¬ a = b → V x g nL k n μ tgt lv st) (kf : ¬ (¬ a = b) → V x g nL k n μ (pc + 3) lv st) : V x g nL k n μ pc lv (aI b :: aI a :: st) := by
  obtain ⟨p, l0, e, R, s, m, args, below, meth, c, Q⟩ := x
  intro h0 H locs ls h1 h2 h3
  exact lv_icmp_ne C.1 C.2.1 d ht (fun q => kt q h0 H locs ls h1 h2 h3) (fun q => kf (fun z => z q) h0 H locs ls h1 h2 h3)
theorem v_if_ne {x : CX} {l : Launch} {g : CG} {M : MI} {nL k n : Nat} {μ : Mem} {pc : Nat} {lv : LV} {st : List AV} (C : Cx x l g M) {a : Int32} {off : Int} {tgt : Nat} (d : decode M.1 pc = .ok (.ifCond .ne off, 3)) (ht : (pc : Int) + off = (tgt : Int)) (kt : ¬ a = 0 → V x g nL k n μ tgt lv st) (kf : ¬ (¬ a = 0) → V x g nL k n μ (pc + 3) lv st) : V x g nL k n μ pc lv (aI a :: st) := by
  obtain ⟨p, l0, e, R, s, m, args, below, meth, c, Q⟩ := x
  intro h0 H locs ls h1 h2 h3
  exact lv_if_ne C.1 C.2.1 d ht (fun q => kt q h0 H locs ls h1 h2 h3) (fun q => kf (fun z => z q) h0 H locs ls h1 h2 h3)
theorem v_icmp_lt {x : CX} {l : Launch} {g : CG} {M : MI} {nL k n : Nat} {μ : Mem} {pc : Nat} {lv : LV} {st : List AV} (C : Cx x l g M) {a b : Int32} {off : Int} {tgt : Nat} (d : decode M.1 pc = .ok (.if_icmp .lt off, 3)) (ht : (pc : Int) + off = (tgt : Int)) (kt : a < b → V x g nL k n μ tgt lv st) (kf : ¬ (a < b) → V x g nL k n μ (pc + 3) lv st) : V x g nL k n μ pc lv (aI b :: aI a :: st) := by
  obtain ⟨p, l0, e, R, s, m, args, below, meth, c, Q⟩ := x
  intro h0 H locs ls h1 h2 h3
  exact lv_icmp_lt C.1 C.2.1 d ht (fun q => kt q h0 H locs ls h1 h2 h3) (fun q => kf q h0 H locs ls h1 h2 h3)
theorem v_if_lt {x : CX} {l : Launch} {g : CG} {M : MI} {nL k n : Nat} {μ : Mem} {pc : Nat} {lv : LV} {st : List AV} (C : Cx x l g M) {a : Int32} {off : Int} {tgt : Nat} (d : decode M.1 pc = .ok (.ifCond .lt off, 3)) (ht : (pc : Int) + off = (tgt : Int)) (kt : a < 0 → V x g nL k n μ tgt lv st) (kf : ¬ (a < 0) → V x g nL k n μ (pc + 3) lv st) : V x g nL k n μ pc lv (aI a :: st) := by
  obtain ⟨p, l0, e, R, s, m, args, below, meth, c, Q⟩ := x
  intro h0 H locs ls h1 h2 h3
  exact lv_if_lt C.1 C.2.1 d ht (fun q => kt q h0 H locs ls h1 h2 h3) (fun q => kf q h0 H locs ls h1 h2 h3)
theorem v_icmp_ge {x : CX} {l : Launch} {g : CG} {M : MI} {nL k n : Nat} {μ : Mem} {pc : Nat} {lv : LV} {st : List AV} (C : Cx x l g M) {a b : Int32} {off : Int} {tgt : Nat} (d : decode M.1 pc = .ok (.if_icmp .ge off, 3)) (ht : (pc : Int) + off = (tgt : Int)) (kt : b ≤ a → V x g nL k n μ tgt lv st) (kf : ¬ (b ≤ a) → V x g nL k n μ (pc + 3) lv st) : V x g nL k n μ pc lv (aI b :: aI a :: st) := by
  obtain ⟨p, l0, e, R, s, m, args, below, meth, c, Q⟩ := x
  intro h0 H locs ls h1 h2 h3
  exact lv_icmp_ge C.1 C.2.1 d ht (fun q => kt q h0 H locs ls h1 h2 h3) (fun q => kf q h0 H locs ls h1 h2 h3)
theorem v_if_ge {x : CX} {l : Launch} {g : CG} {M : MI} {nL k n : Nat} {μ : Mem} {pc : Nat} {lv : LV} {st : List AV} (C : Cx x l g M) {a : Int32} {off : Int} {tgt : Nat} (d : decode M.1 pc = .ok (.ifCond .ge off, 3)) (ht : (pc : Int) + off = (tgt : Int)) (kt : 0 ≤ a → V x g nL k n μ tgt lv st) (kf : ¬ (0 ≤ a) → V x g nL k n μ (pc + 3) lv st) : V x g nL k n μ pc lv (aI a :: st) := by
  obtain ⟨p, l0, e, R, s, m, args, below, meth, c, Q⟩ := x
  intro h0 H locs ls h1 h2 h3
  exact lv_if_ge C.1 C.2.1 d ht (fun q => kt q h0 H locs ls h1 h2 h3) (fun q => kf q h0 H locs ls h1 h2 h3)
theorem v_icmp_gt {x : CX} {l : Launch} {g : CG} {M : MI} {nL k n : Nat} {μ : Mem} {pc : Nat} {lv : LV} {st : List AV} (C : Cx x l g M) {a b : Int32} {off : Int} {tgt : Nat} (d : decode M.1 pc = .ok (.if_icmp .gt off, 3)) (ht : (pc : Int) + off = (tgt : Int)) (kt : b < a → V x g nL k n μ tgt lv st) (kf : ¬ (b < a) → V x g nL k n μ (pc + 3) lv st) : V x g nL k n μ pc lv (aI b :: aI a :: st) := by
  obtain ⟨p, l0, e, R, s, m, args, below, meth, c, Q⟩ := x
  intro h0 H locs ls h1 h2 h3
  exact lv_icmp_gt C.1 C.2.1 d ht (fun q => kt q h0 H locs ls h1 h2 h3) (fun q => kf q h0 H locs ls h1 h2 h3)
theorem v_if_gt {x : CX} {l : Launch} {g : CG} {M : MI} {nL k n : Nat} {μ : Mem} {pc : Nat} {lv : LV} {st : List AV} (C : Cx x l g M) {a : Int32} {off : Int} {tgt : Nat} (d : decode M.1 pc = .ok (.ifCond .gt off, 3)) (ht : (pc : Int) + off = (tgt : Int)) (kt : 0 < a → V x g nL k n μ tgt lv st) (kf : ¬ (0 < a) → V x g nL k n μ (pc + 3) lv st) : V x g nL k n μ pc lv (aI a :: st) := by
  obtain ⟨p, l0, e, R, s, m, args, below, meth, c, Q⟩ := x
  intro h0 H locs ls h1 h2 h3
  exact lv_if_gt C.1 C.2.1 d ht (fun q => kt q h0 H locs ls h1 h2 h3) (fun q => kf q h0 H locs ls h1 h2 h3)
theorem v_icmp_le {x : CX} {l : Launch} {g : CG} {M : MI} {nL k n : Nat} {μ : Mem} {pc : Nat} {lv : LV} {st : List AV} (C : Cx x l g M) {a b : Int32} {off : Int} {tgt : Nat} (d : decode M.1 pc = .ok (.if_icmp .le off, 3)) (ht : (pc : Int) + off = (tgt : Int)) (kt : a ≤ b → V x g nL k n μ tgt lv st) (kf : ¬ (a ≤ b) → V x g nL k n μ (pc + 3) lv st) : V x g nL k n μ pc lv (aI b :: aI a :: st) := by
  obtain ⟨p, l0, e, R, s, m, args, below, meth, c, Q⟩ := x
  intro h0 H locs ls h1 h2 h3
  exact lv_icmp_le C.1 C.2.1 d ht (fun q => kt q h0 H locs ls h1 h2 h3) (fun q => kf q h0 H locs ls h1 h2 h3)
theorem v_if_le {x : CX} {l : Launch} {g : CG} {M : MI} {nL k n : Nat} {μ : Mem} {pc : Nat} {lv : LV} {st : List AV} (C : Cx x l g M) {a : Int32} {off : Int} {tgt : Nat} (d : decode M.1 pc = .ok (.ifCond .le off, 3)) (ht : (pc : Int) + off = (tgt : Int)) (kt : a ≤ 0 → V x g nL k n μ tgt lv st) (kf : ¬ (a ≤ 0) → V x g nL k n μ (pc + 3) lv st) : V x g nL k n μ pc lv (aI a :: st) := by
  obtain ⟨p, l0, e, R, s, m, args, below, meth, c, Q⟩ := x
  intro h0 H locs ls h1 h2 h3
  exact lv_if_le C.1 C.2.1 d ht (fun q => kt q h0 H locs ls h1 h2 h3) (fun q => kf q h0 H locs ls h1 h2 h3)
theorem rmap_inj {B : Nat} {a b : Option Nat} : a.map (fun i => B + i) = b.map (fun i => B + i) ↔ a = b := by
  cases a <;> cases b <;> simp
theorem v_acmp_eq {x : CX} {l : Launch} {g : CG} {M : MI} {nL k n : Nat} {μ : Mem} {pc : Nat} {lv : LV} {st : List AV} (C : Cx x l g M) {a b : Option Nat} {off : Int} {tgt : Nat} (d : decode M.1 pc = .ok (.if_acmp .eq off, 3)) (ht : (pc : Int) + off = (tgt : Int)) (kt : a = b → V x g nL k n μ tgt lv st) (kf : ¬ a = b → V x g nL k n μ (pc + 3) lv st) : V x g nL k n μ pc lv (aR b :: aR a :: st) := by
  obtain ⟨p, l0, e, R, s, m, args, below, meth, c, Q⟩ := x
  intro h0 H locs ls h1 h2 h3
  exact lv_acmp_eq C.1 C.2.1 d ht (fun q => kt (rmap_inj.mp q) h0 H locs ls h1 h2 h3) (fun q => kf (fun z => q (rmap_inj.mpr z)) h0 H locs ls h1 h2 h3)
theorem v_acmp_ne {x : CX} {l : Launch} {g : CG} {M : MI} {nL k n : Nat} {μ : Mem} {pc : Nat} {lv : LV} {st : List AV} (C : Cx x l g M) {a b : Option Nat} {off : Int} {tgt : Nat} (d : decode M.1 pc = .ok (.if_acmp .ne off, 3)) (ht : (pc : Int) + off = (tgt : Int)) (kt : ¬ a = b → V x g nL k n μ tgt lv st) (kf : ¬ ¬ a = b → V x g nL k n μ (pc + 3) lv st) : V x g nL k n μ pc lv (aR b :: aR a :: st) := by
  obtain ⟨p, l0, e, R, s, m, args, below, meth, c, Q⟩ := x
  intro h0 H locs ls h1 h2 h3
  exact lv_acmp_ne C.1 C.2.1 d ht (fun q => kt (fun z => q (rmap_inj.mpr z)) h0 H locs ls h1 h2 h3) (fun q => kf (fun z => z (rmap_inj.mp q)) h0 H locs ls h1 h2 h3)
theorem v_ifnull {x : CX} {l : Launch} {g : CG} {M : MI} {nL k n : Nat} {μ : Mem} {pc : Nat} {lv : LV} {st : List AV} (C : Cx x l g M) {r : Option Nat} {off : Int} {tgt : Nat} (d : decode M.1 pc = .ok (.ifnull off, 3)) (ht : (pc : Int) + off = (tgt : Int)) (kt : r = none → V x g nL k n μ tgt lv st) (kf : ¬ r = none → V x g nL k n μ (pc + 3) lv st) : V x g nL k n μ pc lv (aR r :: st) := by
  obtain ⟨p, l0, e, R, s, m, args, below, meth, c, Q⟩ := x
  intro h0 H locs ls h1 h2 h3
  cases r with
  | none => exact lv_ifnullN C.1 C.2.1 d ht (kt rfl h0 H locs ls h1 h2 h3)
  | some a => exact lv_ifnull C.1 C.2.1 d (kf (fun z => by cases z) h0 H locs ls h1 h2 h3)
theorem v_ifnonnull {x : CX} {l : Launch} {g : CG} {M : MI} {nL k n : Nat} {μ : Mem} {pc : Nat} {lv : LV} {st : List AV} (C : Cx x l g M) {r : Option Nat} {off : Int} {tgt : Nat} (d : decode M.1 pc = .ok (.ifnonnull off, 3)) (ht : (pc : Int) + off = (tgt : Int)) (kt : ¬ r = none → V x g nL k n μ tgt lv st) (kf : ¬ ¬ r = none → V x g nL k n μ (pc + 3) lv st) : V x g nL k n μ pc lv (aR r :: st) := by
  obtain ⟨p, l0, e, R, s, m, args, below, meth, c, Q⟩ := x
  intro h0 H locs ls h1 h2 h3
  cases r with
  | none => exact lv_ifnonnullN C.1 C.2.1 d (kf (fun z => z rfl) h0 H locs ls h1 h2 h3)
  | some a => exact lv_ifnonnull C.1 C.2.1 d ht (kt (fun z => by cases z) h0 H locs ls h1 h2 h3)
theorem v_goto {x : CX} {l : Launch} {g : CG} {M : MI} {nL k n : Nat} {μ : Mem} {pc : Nat} {lv : LV} {st : List AV} (C : Cx x l g M) {off : Int} {tgt : Nat} (d : decode M.1 pc = .ok (.goto off, 3)) (ht : (pc : Int) + off = (tgt : Int)) (kk : V x g nL k n μ tgt lv st) : V x g nL k n μ pc lv st := by
  obtain ⟨p, l0, e, R, s, m, args, below, meth, c, Q⟩ := x
  intro h0 H locs ls h1 h2 h3
  exact lv_goto C.1 C.2.1 d ht (kk h0 H locs ls h1 h2 h3)
theorem v_sub {x : CX} {g : CG} {nL k n : Nat} {μ : Mem} {pc : Nat} {lv lv2 : LV} {st : List AV} (hl : lvle lv2 lv) (kk : V x g nL k n μ pc lv2 st) : V x g nL k n μ pc lv st := fun h0 H locs ls h1 h2 h3 => kk h0 H locs ls h1 h2 (lvm_le h3 hl)
