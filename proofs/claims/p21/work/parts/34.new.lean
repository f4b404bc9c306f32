/-! LAYER 0, arrays of references, new cells -/
theorem v_aaload3 {x : CX} {l : Launch} {g : CG} {M : MI} {nL k n : Nat} {μ : Mem} {pc : Nat} {lv : LV} {st : List AV} (C : Cx x l g M) {i : Int32} {r v : Option Nat} (d : decode M.1 pc = .ok (.aaload, 1)) (e : maR μ 3 r i = some v) (kk : V x g nL k n μ (pc + 1) lv (aR v :: st)) : V x g nL k n μ pc lv (aI i :: aR r :: st) := by
  obtain ⟨p, l0, e0, R, s, m, args, below, meth, c, Q⟩ := x
  intro h0 H locs ls h1 h2 h3
  unfold maR at e
  split at e
  · rename_i N f ev
    obtain ⟨hin, e⟩ := oz e
    cases e
    obtain ⟨a, rfl, ha, hc⟩ := maV_spec ev
    have hlt : i.toNatClampNeg < N := Nat.not_le.mp fun q => hin (Or.inr q)
    have hat := arr_at (g := g) ha hc
    have hty := tyat (Cty C) (t := 3) (ty := .array .int) rfl
    exact W.aald (v := va_rf ((f i.toNatClampNeg).map (fun j => g.1.1 + j))) (ty := .array .int) C.1 C.2.1 (h1 a _ hat) ((C.2.2.2.2.2.1.2 3 _ hty).1 N (fun j => va_rf ((f j).map (fun q => g.1.1 + q)))) rfl (fun q => by cases q) (by show ¬ (i < 0 ∨ (arrV _ _ _).slots.size ≤ _); rw [arrV_size]; exact hin) (by show (arrV _ _ _).slots[_]? = _; rw [arrV_read _ _ hlt]) rfl rfl d (kk h0 H locs ls h1 h2 h3)
  · cases e
theorem v_aastV {x : CX} {l : Launch} {g : CG} {M : MI} {nL k n : Nat} {μ μ2 : Mem} {pc : Nat} {lv : LV} {st : List AV} (C : Cx x l g M) {t ci : Nat} {rr : vw_C} {i : Int32} {r v : Option Nat} (hq : vwCl[ci]? = some rr ∧ arrTys[t]? = some (.object rr.1)) (d : decode M.1 pc = .ok (.aastore, 1)) (e : mbR μ t ci r i v = some μ2) (kk : V x g nL k n μ2 (pc + 1) lv st) : V x g nL k n μ pc lv (aR v :: aI i :: aR r :: st) := by
  obtain ⟨p, l0, e0, R, s, m, args, below, meth, c, Q⟩ := x
  intro h0 H locs ls h1 h2 h3
  unfold mbR at e
  split at e
  · rename_i N f ev
    obtain ⟨hin, e⟩ := oz e
    obtain ⟨hz, e⟩ := oy e
    obtain ⟨a, rfl, ha, hc⟩ := maV_spec ev
    cases e
    have hat := arr_at (g := g) ha hc
    have hty := tyat (Cty C) hq.2
    cases v with
    | none =>
      exact va_astqN C.1 C.2.1 C.2.2.2.2.2.1 h1 (hw_D g μ) h2 a t hat hty hin d (fun H1 locs1 y _ w => kk h0 H1 locs1 ls (hold_set (E := .inl (t, N, .inr (.inr (va_up f i.toNatClampNeg none)))) (by
        show _ = (_, Sum.inl (_, N, Sum.inr (Sum.inr (Sum.inr (Sum.inr (fun j => (va_up f i.toNatClampNeg none j).map (fun q => g.1.1 + q)))))))
        congr 8
        funext j
        unfold va_up
        by_cases hj : j = i.toNatClampNeg
        · rw [if_pos hj, if_pos hj]; rfl
        · rw [if_neg hj, if_neg hj]) y) w h3)
    | some b =>
      have hz2 : mck μ (some b) ci = some b := by
        rcases hz with hz | hz
        · cases hz
        · exact hz
      obtain ⟨fs, -, hb, hcb⟩ := mck_spec hz2
      have hab : (hw g μ)[b]? = some (g.1.1 + b, .inr (ci, fs.map (av_v g.1))) := by rw [hw_at g μ hb, hcb]; rfl
      exact va_astq C.1 C.2.1 C.2.2.2.2.2.1 h1 (hw_D g μ) h2 a t b ci hat hty hab hq.1 hin d (fun H1 locs1 y _ w => kk h0 H1 locs1 ls (hold_set (E := .inl (t, N, .inr (.inr (va_up f i.toNatClampNeg (some b))))) (by
        show _ = (_, Sum.inl (_, N, Sum.inr (Sum.inr (Sum.inr (Sum.inr (fun j => (va_up f i.toNatClampNeg (some b) j).map (fun q => g.1.1 + q)))))))
        congr 8
        funext j
        unfold va_up
        by_cases hj : j = i.toNatClampNeg
        · rw [if_pos hj, if_pos hj]; rfl
        · rw [if_neg hj, if_neg hj]) y) w h3)
  · cases e
/-- a new cell -/
def madd (μ : Mem) (E : ACl) : Mem := (μ.1 + 1, va_up μ.2 μ.1 E)
theorem hw_push (g : CG) (μ : Mem) (E : ACl) : hw g (madd μ E) = hw g μ ++ [(g.1.1 + μ.1, ac_c g E)] := by
  unfold hw madd
  dsimp only
  rw [List.range_succ, List.map_append]
  congr 1
  · apply List.map_congr_left
    intro i hi
    have : i < μ.1 := List.mem_range.mp hi
    rw [va_up_ne _ _ (by omega : i ≠ μ.1)]
  · simp [va_up]
theorem new_at {g : CG} {μ : Mem} {q : Nat} {e : va_E} {H1 : Heap} (hD : va_D (fun q => g.1.1 ≤ q) (hw g μ ++ [(q, e)])) (hP : va_P g.2.1 vwCl (hw g μ ++ [(q, e)]) H1) (hz : H1.size ≤ g.1.1 + μ.1 + 1) : q = g.1.1 + μ.1 := by
  have hlast : (hw g μ ++ [(q, e)])[μ.1]? = some (q, e) := by
    rw [List.getElem?_append_right (by rw [hw_len]; exact Nat.le_refl _), hw_len]
    simp
  have h1 : g.1.1 ≤ q := hD.2 μ.1 _ hlast
  have h2 : q < H1.size := (hP μ.1 _ hlast).lt
  by_cases h : q < g.1.1 + μ.1
  · have ha : q - g.1.1 < μ.1 := by omega
    have hat : (hw g μ ++ [(q, e)])[q - g.1.1]? = some (g.1.1 + (q - g.1.1), ac_c g (μ.2 (q - g.1.1))) := by
      rw [List.getElem?_append_left (by rw [hw_len]; exact ha)]
      exact hw_at g μ ha
    have := hD.1 (q - g.1.1) μ.1 _ _ hat hlast (by show g.1.1 + (q - g.1.1) = q; omega)
    omega
  · omega
/-- what a new object needs -/
def NF (own : String) (idx ci N : Nat) (fs : List AV) : Prop := ∃ (C : String) (T : u_T) (ty : Nat → FieldType), vwCl[ci]? = some (C, T, N) ∧ (∀ w ∈ u_ws C T N, w ∈ lw_ok) ∧ (∀ k, k < N → parseFieldDescriptor (T k).2.2.1 = some (ty k)) ∧ Cond.classLink own idx C ∈ lw_ok ∧ Cond.instantiable C N ∈ lw_ok ∧ Cond.initialized C ∈ lw_ok ∧ ∀ (B : BX) (j : Nat), j < N → defaultValue (ty j) = vp_V (fs.map (av_v B)) j
theorem v_new {x : CX} {l : Launch} {g : CG} {M : MI} {nL k n idx ci N : Nat} {μ : Mem} {pc : Nat} {lv : LV} {st : List AV} (fs : List AV) (C : Cx x l g M) (d : decode M.1 pc = .ok (.new idx, 3)) (nf : NF M.2.2.1 idx ci N fs) (hR : k + 1 ≤ M.2.2.2.2.2.cells ∧ n + N ≤ M.2.2.2.2.2.slots) (kk : V x g nL (k + 1) (n + N) (madd μ (.inr (ci, fs))) (pc + 3) lv (aR (some μ.1) :: st)) : V x g nL k n μ pc lv st := by
  obtain ⟨p, l0, e0, R, s, m, args, below, meth, c, Q⟩ := x
  intro h0 H locs ls h1 h2 h3
  obtain ⟨Cn, T, ty, q1, q2, q3, q4, q5, q6, q7⟩ := nf
  have hRR : R = M.2.2.2.2.2 := C.2.2.2.2.2.2.2.2.2.1
  have h00 : s.heap.size + k = g.1.1 + μ.1 := h0
  have hB : g.1.1 ≤ s.heap.size := C.2.2.2.2.2.2.2.1
  refine va_new (fs := fs.map (av_v g.1)) C.1 C.2.1 C.2.2.2.2.1 q2 ty q3 C.2.2.2.1 (C.2.2.2.2.1 _ q4) (C.2.2.2.2.1 _ q5) (C.2.2.2.2.1 _ q6) C.2.2.2.2.2.1 h1 (hw_D g μ) h2 (fun q hq => Nat.le_trans hB hq) q1 (q7 g.1) (by rw [hRR]; exact hR.1) (by rw [hRR]; exact hR.2) d fun q H1 hP hD hS => ?_
  refine w_size fun hz => ?_
  have hq := new_at hD hP (by omega)
  subst hq
  exact kk (by show s.heap.size + (k + 1) = g.1.1 + (μ.1 + 1); omega) H1 locs ls (by rw [Hold, hw_push]; exact hP) hS h3
/-- the class of a new array is the known one -/
theorem cls_at {g : CG} {U : State} {t : Nat} {cA : ClassId} {ty : FieldType} (hK : va_K g.2.1 vwCl (g.2.2 ++ [(cA, ty)]) U) (hty : g.2.2[t]? = some ((g.2.2.getD t default).1, ty)) : cA = (g.2.2.getD t default).1 := by
  have h1 := (hK.2 t _ (by rw [List.getElem?_append_left (List.getElem?_eq_some_iff.mp hty).1]; exact hty)).2
  have h2 := (hK.2 g.2.2.length (cA, ty) (by rw [List.getElem?_append_right (Nat.le_refl _)]; simp)).2
  cases ty
  all_goals first
    | exact Option.some.inj (h2.symm.trans h1)
    | (obtain ⟨_, _, _, _, _, e1⟩ := h1; obtain ⟨_, _, _, _, _, e2⟩ := h2; exact Option.some.inj (e2.symm.trans e1))
theorem v_newaV {x : CX} {l : Launch} {g : CG} {M : MI} {nL k n t N : Nat} {μ : Mem} {pc : Nat} {lv : LV} {st : List AV} {atype : ArrayType} {ty : FieldType} {i : Int32} (a0 : AA) (C : Cx x l g M) (ht : arrTys[t]? = some ty ∧ newarray.typeOf atype = ty ∧ Cond.arrayClass ty ∈ lw_ok) (ha : ∀ (B : BX) (cA : ClassId), vp_cell cA (N, aa_c B a0) = arrV cA N (fun _ => defaultValue ty)) (d : decode M.1 pc = .ok (.newarray atype, 2)) (hn : ¬ i < 0 ∧ i.toNatClampNeg = N) (hbytes : N * componentBytes ty ≤ 536870912) (hR : k + 1 ≤ M.2.2.2.2.2.cells ∧ n + N ≤ M.2.2.2.2.2.slots) (kk : V x g nL (k + 1) (n + N) (madd μ (.inl (t, N, a0))) (pc + 2) lv (aR (some μ.1) :: st)) : V x g nL k n μ pc lv (aI i :: st) := by
  obtain ⟨p, l0, e0, R, s, m, args, below, meth, c, Q⟩ := x
  intro h0 H locs ls h1 h2 h3
  have hRR : R = M.2.2.2.2.2 := C.2.2.2.2.2.2.2.2.2.1
  have h00 : s.heap.size + k = g.1.1 + μ.1 := h0
  have hB : g.1.1 ≤ s.heap.size := C.2.2.2.2.2.2.2.1
  refine va_newa C.1 C.2.1 (by rw [ht.2.1]; exact C.2.2.2.2.1 _ ht.2.2) ht.2.1 C.2.2.2.2.2.1 h1 (hw_D g μ) h2 (fun q hq => Nat.le_trans hB hq) (ha g.1) hn.1 hn.2 hbytes (by rw [hRR]; exact hR.1) (by rw [hRR]; exact hR.2) d fun q cA H1 hK hP hD hS => ?_
  refine w_size fun hz => ?_
  have hq := new_at hD hP (by omega)
  have hc := cls_at hK (tyat (Cty C) ht.1)
  subst hq
  subst hc
  exact kk (by show s.heap.size + (k + 1) = g.1.1 + (μ.1 + 1); omega) H1 locs ls (by rw [Hold, hw_push]; exact hP) hS h3
theorem arr_i (N : Nat) (ty : FieldType) (h : defaultValue ty = .int 0) (B : BX) (cA : ClassId) : vp_cell cA (N, aa_c B (.inl (fun _ => 0))) = arrV cA N (fun _ => defaultValue ty) := by
  rw [h]
  rfl
theorem arr_j (N : Nat) (B : BX) (cA : ClassId) : vp_cell cA (N, aa_c B (.inr (.inl (fun _ => 0)))) = arrV cA N (fun _ => defaultValue .long) := rfl
def mnaI (μ : Mem) (t N : Nat) : Mem := madd μ (.inl (t, N, .inl (fun _ => 0)))
def mnaJ (μ : Mem) (N : Nat) : Mem := madd μ (.inl (1, N, .inr (.inl (fun _ => 0))))
def mnaR (μ : Mem) (t N : Nat) : Mem := madd μ (.inl (t, N, .inr (.inr (fun _ => none))))
theorem v_newaI {x : CX} {l : Launch} {g : CG} {M : MI} {nL k n N : Nat} {μ : Mem} {pc : Nat} {lv : LV} {st : List AV} {i : Int32} (C : Cx x l g M) (d : decode M.1 pc = .ok (.newarray .int, 2)) (hm : Cond.arrayClass .int ∈ lw_ok) (hn : ¬ i < 0 ∧ i.toNatClampNeg = N) (hbytes : N * 4 ≤ 536870912) (hR : k + 1 ≤ M.2.2.2.2.2.cells ∧ n + N ≤ M.2.2.2.2.2.slots) (kk : V x g nL (k + 1) (n + N) (mnaI μ 0 N) (pc + 2) lv (aR (some μ.1) :: st)) : V x g nL k n μ pc lv (aI i :: st) :=
  v_newaV (atype := .int) (ty := .int) (.inl (fun _ => 0)) C ⟨rfl, rfl, hm⟩ (arr_i N .int rfl) d hn hbytes hR kk
theorem v_newaZ {x : CX} {l : Launch} {g : CG} {M : MI} {nL k n N : Nat} {μ : Mem} {pc : Nat} {lv : LV} {st : List AV} {i : Int32} (C : Cx x l g M) (d : decode M.1 pc = .ok (.newarray .boolean, 2)) (hm : Cond.arrayClass .boolean ∈ lw_ok) (hn : ¬ i < 0 ∧ i.toNatClampNeg = N) (hbytes : N * 1 ≤ 536870912) (hR : k + 1 ≤ M.2.2.2.2.2.cells ∧ n + N ≤ M.2.2.2.2.2.slots) (kk : V x g nL (k + 1) (n + N) (mnaI μ 2 N) (pc + 2) lv (aR (some μ.1) :: st)) : V x g nL k n μ pc lv (aI i :: st) :=
  v_newaV (atype := .boolean) (ty := .boolean) (.inl (fun _ => 0)) C ⟨rfl, rfl, hm⟩ (arr_i N .boolean rfl) d hn hbytes hR kk
theorem v_newaJ {x : CX} {l : Launch} {g : CG} {M : MI} {nL k n N : Nat} {μ : Mem} {pc : Nat} {lv : LV} {st : List AV} {i : Int32} (C : Cx x l g M) (d : decode M.1 pc = .ok (.newarray .long, 2)) (hm : Cond.arrayClass .long ∈ lw_ok) (hn : ¬ i < 0 ∧ i.toNatClampNeg = N) (hbytes : N * 8 ≤ 536870912) (hR : k + 1 ≤ M.2.2.2.2.2.cells ∧ n + N ≤ M.2.2.2.2.2.slots) (kk : V x g nL (k + 1) (n + N) (mnaJ μ N) (pc + 2) lv (aR (some μ.1) :: st)) : V x g nL k n μ pc lv (aI i :: st) :=
  v_newaV (atype := .long) (ty := .long) (.inr (.inl (fun _ => 0))) C ⟨rfl, rfl, hm⟩ (arr_j N) d hn hbytes hR kk
theorem v_newaR {x : CX} {l : Launch} {g : CG} {M : MI} {nL k n t idx N : Nat} {μ : Mem} {pc : Nat} {lv : LV} {st : List AV} {i : Int32} {Cn : String} (C : Cx x l g M) (d : decode M.1 pc = .ok (.anewarray idx, 3)) (ht : arrTys[t]? = some (.object Cn) ∧ Cond.classLink M.2.2.1 idx Cn ∈ lw_ok ∧ Cond.arrayOver (.object Cn) ∈ lw_ns) (hn : ¬ i < 0 ∧ i.toNatClampNeg = N) (hbytes : N * 4 ≤ 536870912) (hR : k + 1 ≤ M.2.2.2.2.2.cells ∧ n + N ≤ M.2.2.2.2.2.slots) (kk : V x g nL (k + 1) (n + N) (mnaR μ t N) (pc + 3) lv (aR (some μ.1) :: st)) : V x g nL k n μ pc lv (aI i :: st) := by
  obtain ⟨p, l0, e0, R, s, m, args, below, meth, c, Q⟩ := x
  intro h0 H locs ls h1 h2 h3
  have hRR : R = M.2.2.2.2.2 := C.2.2.2.2.2.2.2.2.2.1
  have h00 : s.heap.size + k = g.1.1 + μ.1 := h0
  have hB : g.1.1 ≤ s.heap.size := C.2.2.2.2.2.2.2.1
  refine va_newq C.1 C.2.1 C.2.2.2.1 (C.2.2.2.2.1 _ ht.2.1) (Cns C _ ht.2.2) C.2.2.2.2.2.1 h1 (hw_D g μ) h2 (fun q hq => Nat.le_trans hB hq) hn.1 hn.2 hbytes (by rw [hRR]; exact hR.1) (by rw [hRR]; exact hR.2) d fun q cA H1 hK hP hD hS => ?_
  refine w_size fun hz => ?_
  have hq := new_at hD hP (by omega)
  have hc := cls_at hK (tyat (Cty C) ht.1)
  subst hq
  subst hc
  exact kk (by show s.heap.size + (k + 1) = g.1.1 + (μ.1 + 1); omega) H1 locs ls (by rw [Hold, mnaR, hw_push]; exact hP) hS h3
theorem v_objInit {x : CX} {l : Launch} {g : CG} {M : MI} {nL k n idx a : Nat} {μ : Mem} {pc : Nat} {lv : LV} {st : List AV} (C : Cx x l g M) (d : decode M.1 pc = .ok (.invokespecial idx, 3)) (hw : Cond.methodLink M.2.2.1 idx Lib.objectInit ∈ lw_ok ∧ Cond.instanceMethod Lib.objectInit ∈ lw_ok ∧ Cond.code Lib.objectInit ⟨#[0xb1]⟩ 1 none ∈ lw_ok) (hL : M.2.1 = nL) (hR : 1 ≤ M.2.2.2.2.2.frames ∧ 0 + stw g.1 st + 12 ≤ M.2.2.2.2.2.locals) (kk : V x g nL k n μ (pc + 3) lv st) : V x g nL k n μ pc lv (aR (some a) :: st) := by
  obtain ⟨p, l0, e0, R, s, m, args, below, meth, c, Q⟩ := x
  intro h0 H locs ls h1 h2 h3
  have hRR : R = M.2.2.2.2.2 := C.2.2.2.2.2.2.2.2.2.1
  exact W.objInit C.1 C.2.1 C.2.2.2.1 (C.2.2.2.2.1 _ hw.1) (C.2.2.2.2.1 _ hw.2.1) (C.2.2.2.2.1 _ hw.2.2) (g := F0 m pc ls ((aR (some a) :: st).map (av_v g.1))) rfl (by rw [C.2.2.1, hL]; exact h3.1) rfl d (by rw [hRR]; exact hR.1) (by rw [hRR]; show 2 * 0 + _ + 12 ≤ _; rw [stw_eq]; exact hR.2) (kk h0 H locs ls h1 h2 h3)
theorem v_objInitR {x : CX} {l : Launch} {g : CG} {M : MI} {nL k n idx ci b' : Nat} {μ : Mem} {pc : Nat} {lv : LV} {st : List AV} {r : Option Nat} (C : Cx x l g M) (d : decode M.1 pc = .ok (.invokespecial idx, 3)) (hw : Cond.methodLink M.2.2.1 idx Lib.objectInit ∈ lw_ok ∧ Cond.instanceMethod Lib.objectInit ∈ lw_ok ∧ Cond.code Lib.objectInit ⟨#[0xb1]⟩ 1 none ∈ lw_ok) (hL : M.2.1 = nL) (hR : 1 ≤ M.2.2.2.2.2.frames ∧ 0 + stw g.1 st + 12 ≤ M.2.2.2.2.2.locals) (e0 : mck μ r ci = some b') (kk : V x g nL k n μ (pc + 3) lv st) : V x g nL k n μ pc lv (aR r :: st) := by
  obtain ⟨fs, rfl, -, -⟩ := mck_spec e0
  exact v_objInit C d hw hL hR kk
theorem v_wid {x : CX} {g : CG} {nL k n n' : Nat} {μ : Mem} {pc : Nat} {lv : LV} {st : List AV} (h : n ≤ n') (kk : V x g nL k n' μ pc lv st) : V x g nL k n μ pc lv st := by
  obtain ⟨p, l0, e0, R, s, m, args, below, meth, c, Q⟩ := x
  exact fun h0 H locs ls h1 h2 h3 => W.widen (Nat.le_refl _) h (kk h0 H locs ls h1 h2 h3)
theorem v_eqk {x : CX} {g : CG} {nL k k' n : Nat} {μ : Mem} {pc : Nat} {lv : LV} {st : List AV} (h : k = k') (kk : V x g nL k' n μ pc lv st) : V x g nL k n μ pc lv st := by
  subst h; exact kk
theorem v_caseD {x : CX} {g : CG} {nL k n : Nat} {μ : Mem} {lv : LV} {st : List AV} {a : Int32} {dt : Nat} (kk : V x g nL k n μ dt lv st) : V x g nL k n μ (sel a [] dt) lv st := kk
