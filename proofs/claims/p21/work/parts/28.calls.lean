/-! LAYER 0, contracts, calls, returns -/
/-- a method's contract: from μ it answers r and leaves μ' -/
def CtB (g : CG) (μ : Mem) (U : State) : Prop := U.heap.size = g.1.1 + μ.1 ∧ Hold g μ U.heap ∧ va_K g.2.1 vwCl g.2.2 U ∧ g.2.2.map (fun q => q.2) = arrTys ∧ Ext g U ∧ (∀ w ∈ lw_ns, va_Nw w U)
def CtP (g : CG) (av : List AV) (μ : Mem) : Array Value → State → Prop := va_Pc (av.map (av_v g.1)) (CtB g μ)
def CtQ (g : CG) (M : MI) (μ : Mem) (r : Option AV) (μ' : Mem) : Array Value → State → Outcome → State → Prop := fun _ st oc t => oc = .returned (r.map (av_v g.1)) ∧ μ'.1 = μ.1 + M.2.2.2.2.2.cells ∧ Hold g μ' t.heap ∧ va_F (fun q => g.1.1 ≤ q) st t
def Ct (l : Launch) (y : MethodName) (M : MI) (g : CG) (av : List AV) (μ : Mem) (r : Option AV) (μ' : Mem) : Prop := Met l y (.code y M.1 M.2.1 M.2.2.2.2.1 :: lw_ok) M.2.2.2.2.2 (CtP g av μ) (CtQ g M μ r μ') M.2.2.2.2.2.cells M.2.2.2.2.2.slots (fun q => g.1.1 ≤ q)
/-- what the walk has promised: the contract's end -/
def Prom (x : CX) (g : CG) (M : MI) (μ : Mem) (r : Option AV) (μ' : Mem) : Prop := (xs x).heap.size = g.1.1 + μ.1 ∧ xQ x = MQ (xb x) (CtQ g M μ r μ') (xa x) (xs x) M.2.2.2.2.2.cells M.2.2.2.2.2.slots (fun q => g.1.1 ≤ q)
def stw (_ : BX) (st : List AV) : Nat := (st.map (fun a => if av_w a then 2 else 1)).sum
theorem stw_eq (g : BX) (st : List AV) : ((st.map (av_v g)).map fun v => v.category).sum = stw g st := by
  unfold stw
  rw [List.map_map]
  congr 1
  apply List.map_congr_left
  intro a _
  rcases a with x | x | r | k
  · rfl
  · rfl
  · cases r <;> rfl
  · rfl
/-- the locals at a method's entry -/
def lva (i : Nat) (av : List AV) : LV := match av with
  | [] => []
  | a :: r => (i, a) :: lva (if av_w a then i + 2 else i + 1) r
theorem av_cat2 (B : BX) (a : AV) : (av_v B a).category = 2 ↔ av_w a = true := by
  have h := av_cat B a
  rw [← h]
  simp
theorem lva_eq (B : BX) (av : List AV) : ∀ i, lv_args i (av.map (av_v B)) = lvm B (lva i av) := by
  induction av with
  | nil => intro i; rfl
  | cons a r ih =>
    intro i
    show (i, av_v B a) :: lv_args (if (av_v B a).category = 2 then i + 2 else i + 1) (r.map (av_v B)) = (i, av_v B a) :: lvm B (lva (if av_w a then i + 2 else i + 1) r)
    rw [ih]
    by_cases hw : av_w a = true
    · rw [if_pos ((av_cat2 B a).mpr hw), if_pos hw]
    · rw [if_neg (fun z => hw ((av_cat2 B a).mp z)), if_neg hw]
theorem lgs_eq (B : BX) (av : List AV) : (lg_sl (av.map (av_v B))).length = stw B av := by
  induction av with
  | nil => rfl
  | cons a r ih =>
    show (lg_sl (av_v B a :: r.map (av_v B))).length = (if av_w a then 2 else 1) + stw B r
    unfold lg_sl at ih ⊢
    rw [List.flatMap_cons, List.length_append, ih]
    congr 1
    by_cases hw : av_w a = true
    · rw [if_pos ((av_cat2 B a).mpr hw), if_pos hw]; rfl
    · rw [if_neg (fun z => hw ((av_cat2 B a).mp z)), if_neg hw]; rfl
theorem ct_of {l : Launch} {y : MethodName} {M : MI} {g : CG} {av : List AV} {μ : Mem} {r : Option AV} {μ' : Mem} (hy : plainName y.cls = true ∧ y.cls = M.2.2.1 ∧ y.name = M.2.2.2.1) (hn : stw g.1 av ≤ M.2.1) (h : ∀ x : CX, Cx x l g M → Prom x g M μ r μ' → V x g M.2.1 0 0 μ 0 (lva 0 av) []) : Ct l y M g av μ r μ' := by
  refine Met.ofW (cc := M.1) (maxL := M.2.1) (ret := M.2.2.2.2.1) hy.1 rfl ?_
  intro p e s m args below meth c s₁ B hml hv
  obtain ⟨rfl, hsz, hP, hK, hty, hE, hN⟩ := hv
  have hts := atoms_spec B.pre
  have hown : s.vm.findClass M.2.2.1 = some m.cls := by rw [← hy.2.1]; exact findClass_of_methodNamed B.named
  have C : Cx (p, l, e, M.2.2.2.2.2, s, m, (av.map (av_v g.1)).toArray, below, meth, c, MQ below (CtQ g M μ r μ') (av.map (av_v g.1)).toArray s M.2.2.2.2.2.cells M.2.2.2.2.2.slots (fun q => g.1.1 ≤ q)) l g M := ⟨B.exec, B.bytes, hml, hown, fun w hw => hts w (List.mem_cons_of_mem _ hw), hK, B.notSynchronized, by show g.1.1 ≤ s.heap.size; omega, rfl, rfl, B.returns, (name_of_methodNamed B.named B.method).1.trans hy.2.2, hty, hE, hN⟩
  have K := h _ C ⟨hsz, rfl⟩ (by show s.heap.size + 0 = _; omega) s.heap [] _ hP va_S.rf (by rw [← lva_eq]; exact lv_entry _ (by rw [lgs_eq]; exact hn))
  rw [lg_entry_eq]
  exact K
theorem v_end {x : CX} {l : Launch} {g : CG} {M : MI} {k n : Nat} {μ0 μ : Mem} {r : Option AV} {H : Heap} {locs : List Loc} (C : Cx x l g M) (F : Prom x g M μ0 r μ) (hk : k = M.2.2.2.2.2.cells) (h0 : (xs x).heap.size + k = g.1.1 + μ.1) (h1 : Hold g μ H) (h2 : va_S (fun q => g.1.1 ≤ q) (xs x).heap H locs) (t : State) (ht : t.heap = H) : CtQ g M μ0 r μ (xa x) (xs x) (.returned (r.map (av_v g.1))) t :=
  ⟨rfl, by have := F.1; omega, by rw [ht]; exact h1, h2.F ht⟩
theorem v_vret {x : CX} {l : Launch} {g : CG} {M : MI} {nL k n : Nat} {μ0 μ μ9 : Mem} {pc : Nat} {lv : LV} {rv : Unit} (C : Cx x l g M) (F : Prom x g M μ0 none μ9) (hM : M.2.2.2.2.1 = none ∧ k = M.2.2.2.2.2.cells ∧ n ≤ M.2.2.2.2.2.slots) (d : decode M.1 pc = .ok (.return_, 1)) (h : some ((), μ) = some (rv, μ9)) : V x g nL k n μ pc lv [] := by
  cases h
  obtain ⟨p, l0, e, R, s, m, args, below, meth, c, Q⟩ := x
  intro h0 H locs ls h1 h2 h3
  obtain ⟨hr, rfl, hn⟩ := hM
  have hQ : Q = MQ below (CtQ g M μ0 none μ) args s M.2.2.2.2.2.cells M.2.2.2.2.2.slots (fun q => g.1.1 ≤ q) := F.2
  show W p l0 e R s m args below meth c H locs M.2.2.2.2.2.cells n Q (F0 m pc ls ([].map (av_v g.1)))
  rw [hQ]
  exact W.widen (Nat.le_refl _) hn (W.vret C.1 C.2.1 (C.2.2.2.2.2.2.2.2.2.2.1.trans hr) (fun t ht _ => v_end (r := none) (n := n) C F rfl h0 h1 h2 t ht) h2.2.2 d C.2.2.2.2.2.2.1)
theorem v_iret {x : CX} {l : Launch} {g : CG} {M : MI} {nL k n : Nat} {μ0 μ μ9 : Mem} {pc : Nat} {lv : LV} {v rv : Int32} (C : Cx x l g M) (F : Prom x g M μ0 (some (aI rv)) μ9) (hM : M.2.2.2.2.1 = some .int ∧ k = M.2.2.2.2.2.cells ∧ n ≤ M.2.2.2.2.2.slots) (d : decode M.1 pc = .ok (.ireturn, 1)) (h : some (v, μ) = some (rv, μ9)) : V x g nL k n μ pc lv [aI v] := by
  cases h
  obtain ⟨p, l0, e, R, s, m, args, below, meth, c, Q⟩ := x
  intro h0 H locs ls h1 h2 h3
  obtain ⟨hr, rfl, hn⟩ := hM
  have hQ : Q = MQ below (CtQ g M μ0 (some (aI v)) μ) args s M.2.2.2.2.2.cells M.2.2.2.2.2.slots (fun q => g.1.1 ≤ q) := F.2
  show W p l0 e R s m args below meth c H locs M.2.2.2.2.2.cells n Q (F0 m pc ls ([aI v].map (av_v g.1)))
  rw [hQ]
  exact W.widen (Nat.le_refl _) hn (W.iret C.1 C.2.1 (C.2.2.2.2.2.2.2.2.2.2.1.trans hr) (fun t ht _ => v_end (r := some (aI v)) (n := n) C F rfl h0 h1 h2 t ht) h2.2.2 d C.2.2.2.2.2.2.1)
theorem v_lret {x : CX} {l : Launch} {g : CG} {M : MI} {nL k n : Nat} {μ0 μ μ9 : Mem} {pc : Nat} {lv : LV} {v rv : Int64} (C : Cx x l g M) (F : Prom x g M μ0 (some (aJ rv)) μ9) (hM : M.2.2.2.2.1 = some .long ∧ k = M.2.2.2.2.2.cells ∧ n ≤ M.2.2.2.2.2.slots) (d : decode M.1 pc = .ok (.lreturn, 1)) (h : some (v, μ) = some (rv, μ9)) : V x g nL k n μ pc lv [aJ v] := by
  cases h
  obtain ⟨p, l0, e, R, s, m, args, below, meth, c, Q⟩ := x
  intro h0 H locs ls h1 h2 h3
  obtain ⟨hr, rfl, hn⟩ := hM
  have hQ : Q = MQ below (CtQ g M μ0 (some (aJ v)) μ) args s M.2.2.2.2.2.cells M.2.2.2.2.2.slots (fun q => g.1.1 ≤ q) := F.2
  show W p l0 e R s m args below meth c H locs M.2.2.2.2.2.cells n Q (F0 m pc ls ([aJ v].map (av_v g.1)))
  rw [hQ]
  exact W.widen (Nat.le_refl _) hn (W.lret C.1 C.2.1 (C.2.2.2.2.2.2.2.2.2.2.1.trans hr) (fun t ht _ => v_end (r := some (aJ v)) (n := n) C F rfl h0 h1 h2 t ht) h2.2.2 d C.2.2.2.2.2.2.1)
theorem v_zret {x : CX} {l : Launch} {g : CG} {M : MI} {nL k n : Nat} {μ0 μ μ9 : Mem} {pc : Nat} {lv : LV} {v rv : Int32} (C : Cx x l g M) (F : Prom x g M μ0 (some (aI rv)) μ9) (hM : M.2.2.2.2.1 = some .boolean ∧ k = M.2.2.2.2.2.cells ∧ n ≤ M.2.2.2.2.2.slots) (d : decode M.1 pc = .ok (.ireturn, 1)) (h : retZ v μ = some (rv, μ9)) : V x g nL k n μ pc lv [aI v] := by
  unfold retZ at h
  obtain ⟨hz, h⟩ := oy h
  cases h
  obtain ⟨p, l0, e, R, s, m, args, below, meth, c, Q⟩ := x
  intro h0 H locs ls h1 h2 h3
  obtain ⟨hr, rfl, hn⟩ := hM
  have hQ : Q = MQ below (CtQ g M μ0 (some (aI v)) μ) args s M.2.2.2.2.2.cells M.2.2.2.2.2.slots (fun q => g.1.1 ≤ q) := F.2
  show W p l0 e R s m args below meth c H locs M.2.2.2.2.2.cells n Q (F0 m pc ls ([aI v].map (av_v g.1)))
  rw [hQ]
  exact W.widen (Nat.le_refl _) hn (W.zret C.1 C.2.1 (C.2.2.2.2.2.2.2.2.2.2.1.trans hr) (bool_nar hz).1 (fun t ht _ => v_end (r := some (aI v)) (n := n) C F rfl h0 h1 h2 t ht) h2.2.2 d C.2.2.2.2.2.2.1)
theorem v_aret {x : CX} {l : Launch} {g : CG} {M : MI} {nL k n : Nat} {μ0 μ μ9 : Mem} {pc : Nat} {lv : LV} {v rv : Option Nat} {Cn : String} (C : Cx x l g M) (F : Prom x g M μ0 (some (aR rv)) μ9) (hM : M.2.2.2.2.1 = some (.object Cn) ∧ k = M.2.2.2.2.2.cells ∧ n ≤ M.2.2.2.2.2.slots) (d : decode M.1 pc = .ok (.areturn, 1)) (h : some (v, μ) = some (rv, μ9)) : V x g nL k n μ pc lv [aR v] := by
  cases h
  obtain ⟨p, l0, e, R, s, m, args, below, meth, c, Q⟩ := x
  intro h0 H locs ls h1 h2 h3
  obtain ⟨hr, rfl, hn⟩ := hM
  have hQ : Q = MQ below (CtQ g M μ0 (some (aR v)) μ) args s M.2.2.2.2.2.cells M.2.2.2.2.2.slots (fun q => g.1.1 ≤ q) := F.2
  show W p l0 e R s m args below meth c H locs M.2.2.2.2.2.cells n Q (F0 m pc ls ([aR v].map (av_v g.1)))
  rw [hQ]
  refine W.widen (Nat.le_refl _) hn (W.aret C.1 C.2.1 (C.2.2.2.2.2.2.2.2.2.2.1.trans hr) (Or.inl ⟨_, rfl⟩) ?_ (fun t ht _ => v_end (r := some (aR v)) (n := n) C F rfl h0 h1 h2 t ht) h2.2.2 d C.2.2.2.2.2.2.1)
  cases v with
  | none => exact Or.inl rfl
  | some a => exact Or.inr ⟨_, rfl⟩
