/-! LAYER 0, the heap: what the shallow functions read and write, and the rows of fields and arrays -/
def mfV (μ : Mem) (r : Option Nat) (ci kf : Nat) : Option AV := match r with
  | none => none
  | some a => if a < μ.1 then (match μ.2 a with
    | .inr (c, fs) => if c = ci then fs[kf]? else none
    | .inl _ => none) else none
def mfI (μ : Mem) (r : Option Nat) (ci kf : Nat) : Option Int32 := match mfV μ r ci kf with
  | some (.inl x) => some x
  | _ => none
def mfJ (μ : Mem) (r : Option Nat) (ci kf : Nat) : Option Int64 := match mfV μ r ci kf with
  | some (.inr (.inl x)) => some x
  | _ => none
def mfR (μ : Mem) (r : Option Nat) (ci kf : Nat) : Option (Option Nat) := match mfV μ r ci kf with
  | some (.inr (.inr (.inl x))) => some x
  | _ => none
def mpV (μ : Mem) (r : Option Nat) (ci kf : Nat) (v : AV) : Option Mem := match r with
  | none => none
  | some a => if a < μ.1 then (match μ.2 a with
    | .inr (c, fs) => if c = ci ∧ kf < fs.length then some (μ.1, va_up μ.2 a (.inr (ci, fs.set kf v))) else none
    | .inl _ => none) else none
def mpI (μ : Mem) (r : Option Nat) (ci kf : Nat) (x : Int32) : Option Mem := mpV μ r ci kf (aI x)
def mpJ (μ : Mem) (r : Option Nat) (ci kf : Nat) (x : Int64) : Option Mem := mpV μ r ci kf (aJ x)
def mpR (μ : Mem) (r : Option Nat) (ci kf : Nat) (x : Option Nat) : Option Mem := mpV μ r ci kf (aR x)
def mpZ (μ : Mem) (r : Option Nat) (ci kf : Nat) (x : Int32) : Option Mem := if x = 0 ∨ x = 1 then mpV μ r ci kf (aI x) else none
/-- a receiver: an object of class ci -/
def mck (μ : Mem) (r : Option Nat) (ci : Nat) : Option Nat := match r with
  | none => none
  | some a => if a < μ.1 then (match μ.2 a with
    | .inr (c, _) => if c = ci then some a else none
    | .inl _ => none) else none
def maV (μ : Mem) (t : Nat) (r : Option Nat) : Option (Nat × AA) := match r with
  | none => none
  | some a => if a < μ.1 then (match μ.2 a with
    | .inl (t2, n, f) => if t2 = t then some (n, f) else none
    | .inr _ => none) else none
def maI (μ : Mem) (t : Nat) (r : Option Nat) (i : Int32) : Option Int32 := match maV μ t r with
  | some (n, .inl f) => if i < 0 ∨ n ≤ i.toNatClampNeg then none else some (f i.toNatClampNeg)
  | _ => none
def maJ (μ : Mem) (t : Nat) (r : Option Nat) (i : Int32) : Option Int64 := match maV μ t r with
  | some (n, .inr (.inl f)) => if i < 0 ∨ n ≤ i.toNatClampNeg then none else some (f i.toNatClampNeg)
  | _ => none
def maR (μ : Mem) (t : Nat) (r : Option Nat) (i : Int32) : Option (Option Nat) := match maV μ t r with
  | some (n, .inr (.inr f)) => if i < 0 ∨ n ≤ i.toNatClampNeg then none else some (f i.toNatClampNeg)
  | _ => none
def mbV (μ : Mem) (t : Nat) (r : Option Nat) (n : Nat) (f : AA) : Option Mem := match r with
  | none => none
  | some a => some (μ.1, va_up μ.2 a (.inl (t, n, f)))
def mbI (μ : Mem) (t : Nat) (r : Option Nat) (i x : Int32) : Option Mem := match maV μ t r with
  | some (n, .inl f) => if i < 0 ∨ n ≤ i.toNatClampNeg then none else mbV μ t r n (.inl (upd f i.toNatClampNeg x))
  | _ => none
def mbZ (μ : Mem) (t : Nat) (r : Option Nat) (i x : Int32) : Option Mem := match maV μ t r with
  | some (n, .inl f) => if i < 0 ∨ n ≤ i.toNatClampNeg then none else if x = 0 ∨ x = 1 then mbV μ t r n (.inl (upd f i.toNatClampNeg x)) else none
  | _ => none
def mbJ (μ : Mem) (t : Nat) (r : Option Nat) (i : Int32) (x : Int64) : Option Mem := match maV μ t r with
  | some (n, .inr (.inl f)) => if i < 0 ∨ n ≤ i.toNatClampNeg then none else mbV μ t r n (.inr (.inl (vp_updL f i.toNatClampNeg x)))
  | _ => none
/-- the value is null or an object of class ci -/
def mbR (μ : Mem) (t ci : Nat) (r : Option Nat) (i : Int32) (x : Option Nat) : Option Mem := match maV μ t r with
  | some (n, .inr (.inr f)) => if i < 0 ∨ n ≤ i.toNatClampNeg then none else if x = none ∨ mck μ x ci = x then mbV μ t r n (.inr (.inr (va_up f i.toNatClampNeg x))) else none
  | _ => none
def mal (μ : Mem) (r : Option Nat) : Option Int32 := match r with
  | none => none
  | some a => if a < μ.1 then (match μ.2 a with
    | .inl (t, n, _) => if t < 6 then some (Int32.ofNat n) else none
    | .inr _ => none) else none
def retZ (x : Int32) (μ : Mem) : Option (Int32 × Mem) := if x = 0 ∨ x = 1 then some (x, μ) else none
theorem ob {α β : Type} {o : Option α} {f : α → Option β} {r : β} (h : o.bind f = some r) : ∃ v, o = some v ∧ f v = some r := Option.bind_eq_some_iff.mp h
theorem ifT {c : Prop} [Decidable c] {α : Type} {a b r : α} (h : (if c then a else b) = r) (hc : c) : a = r := by rw [if_pos hc] at h; exact h
theorem ifF {c : Prop} [Decidable c] {α : Type} {a b r : α} (h : (if c then a else b) = r) (hc : ¬ c) : b = r := by rw [if_neg hc] at h; exact h
theorem oz {c : Prop} [Decidable c] {α : Type} {a : Option α} {r : α} (h : (if c then none else a) = some r) : ¬ c ∧ a = some r := by
  by_cases hc : c
  · rw [if_pos hc] at h; cases h
  · rw [if_neg hc] at h; exact ⟨hc, h⟩
theorem oy {c : Prop} [Decidable c] {α : Type} {a : Option α} {r : α} (h : (if c then a else none) = some r) : c ∧ a = some r := by
  by_cases hc : c
  · rw [if_pos hc] at h; exact ⟨hc, h⟩
  · rw [if_neg hc] at h; cases h
theorem mfV_spec {μ : Mem} {r : Option Nat} {ci kf : Nat} {v : AV} (h : mfV μ r ci kf = some v) : ∃ a fs, r = some a ∧ a < μ.1 ∧ μ.2 a = .inr (ci, fs) ∧ fs[kf]? = some v := by
  cases r with
  | none => cases h
  | some a =>
    unfold mfV at h
    obtain ⟨ha, h⟩ := oy h
    rcases hc : μ.2 a with y | ⟨c, fs⟩
    · rw [hc] at h; cases h
    · rw [hc] at h
      dsimp only at h
      obtain ⟨h0, h9⟩ := oy h
      subst h0
      exact ⟨a, fs, rfl, ha, hc, h9⟩
theorem mfI_spec {μ : Mem} {r : Option Nat} {ci kf : Nat} {v : Int32} (h : mfI μ r ci kf = some v) : mfV μ r ci kf = some (aI v) := by
  unfold mfI at h
  split at h
  · rename_i x e; cases h; exact e
  · cases h
theorem mfJ_spec {μ : Mem} {r : Option Nat} {ci kf : Nat} {v : Int64} (h : mfJ μ r ci kf = some v) : mfV μ r ci kf = some (aJ v) := by
  unfold mfJ at h
  split at h
  · rename_i x e; cases h; exact e
  · cases h
theorem mfR_spec {μ : Mem} {r : Option Nat} {ci kf : Nat} {v : Option Nat} (h : mfR μ r ci kf = some v) : mfV μ r ci kf = some (aR v) := by
  unfold mfR at h
  split at h
  · rename_i x e; cases h; exact e
  · cases h
theorem mpV_spec {μ μ' : Mem} {r : Option Nat} {ci kf : Nat} {v : AV} (h : mpV μ r ci kf v = some μ') : ∃ a fs, r = some a ∧ a < μ.1 ∧ μ.2 a = .inr (ci, fs) ∧ kf < fs.length ∧ μ' = (μ.1, va_up μ.2 a (.inr (ci, fs.set kf v))) := by
  cases r with
  | none => cases h
  | some a =>
    unfold mpV at h
    obtain ⟨ha, h⟩ := oy h
    rcases hc : μ.2 a with y | ⟨c, fs⟩
    · rw [hc] at h; cases h
    · rw [hc] at h
      dsimp only at h
      obtain ⟨⟨h0, hk⟩, h9⟩ := oy h
      subst h0
      exact ⟨a, fs, rfl, ha, hc, hk, (Option.some.inj h9).symm⟩
theorem maV_spec {μ : Mem} {t : Nat} {r : Option Nat} {n : Nat} {f : AA} (h : maV μ t r = some (n, f)) : ∃ a, r = some a ∧ a < μ.1 ∧ μ.2 a = .inl (t, n, f) := by
  cases r with
  | none => cases h
  | some a =>
    unfold maV at h
    obtain ⟨ha, h⟩ := oy h
    rcases hc : μ.2 a with ⟨t2, n2, f2⟩ | y
    · rw [hc] at h
      dsimp only at h
      obtain ⟨h0, h9⟩ := oy h
      clear h
      subst h0
      cases h9
      exact ⟨a, rfl, ha, hc⟩
    · rw [hc] at h; cases h
theorem mck_spec {μ : Mem} {r : Option Nat} {ci b : Nat} (h : mck μ r ci = some b) : ∃ fs, r = some b ∧ b < μ.1 ∧ μ.2 b = .inr (ci, fs) := by
  cases r with
  | none => cases h
  | some a =>
    unfold mck at h
    obtain ⟨ha, h⟩ := oy h
    rcases hc : μ.2 a with y | ⟨c, fs⟩
    · rw [hc] at h; cases h
    · rw [hc] at h
      dsimp only at h
      obtain ⟨h0, h9⟩ := oy h
      clear h
      subst h0
      cases h9
      exact ⟨fs, rfl, ha, hc⟩
abbrev Cty {x : CX} {l : Launch} {g : CG} {M : MI} (C : Cx x l g M) : g.2.2.map (fun q => q.2) = arrTys := C.2.2.2.2.2.2.2.2.2.2.2.2.1
abbrev Cex {x : CX} {l : Launch} {g : CG} {M : MI} (C : Cx x l g M) : Ext g (xs x) := C.2.2.2.2.2.2.2.2.2.2.2.2.2.1
abbrev Cns {x : CX} {l : Launch} {g : CG} {M : MI} (C : Cx x l g M) : ∀ w ∈ lw_ns, va_Nw w (xs x) := C.2.2.2.2.2.2.2.2.2.2.2.2.2.2
/-- what a getfield needs: the class of number ci, its field kf, the link -/
def GF (own : String) (idx ci kf : Nat) : Prop := ∃ (C : String) (T : u_T) (N : Nat), vwCl[ci]? = some (C, T, N) ∧ kf < N ∧ (∀ w ∈ u_ws C T N, w ∈ lw_ok) ∧ (T kf).1 = C ∧ (Cond.fieldLink own idx C (T kf).2.1 (T kf).2.2.1 ∈ lw_ok ∨ ∃ host, Cond.fieldLinkNest own idx C (T kf).2.1 (T kf).2.2.1 host ∈ lw_ns)
def PF (own mn : String) (idx ci kf : Nat) (ty : FieldType) : Prop := ∃ (C : String) (T : u_T) (N : Nat) (ty0 : Nat → FieldType), vwCl[ci]? = some (C, T, N) ∧ kf < N ∧ (∀ w ∈ u_ws C T N, w ∈ lw_ok) ∧ (T kf).1 = C ∧ (∀ k, k < N → parseFieldDescriptor (T k).2.2.1 = some (ty0 k)) ∧ (∀ a, a < N → ∀ b, b < N → a ≠ b → (T a).2.1 ≠ (T b).2.1) ∧ parseFieldDescriptor (T kf).2.2.1 = some ty ∧ (((T kf).2.2.2 = false ∧ (Cond.fieldLink own idx C (T kf).2.1 (T kf).2.2.1 ∈ lw_ok ∨ ∃ host, Cond.fieldLinkNest own idx C (T kf).2.1 (T kf).2.2.1 host ∈ lw_ns)) ∨ ((T kf).2.2.2 = true ∧ mn = "<init>" ∧ C = own ∧ Cond.fieldLink own idx C (T kf).2.1 (T kf).2.2.1 ∈ lw_ok))
theorem v_getV {x : CX} {l : Launch} {g : CG} {M : MI} {nL k n : Nat} {μ : Mem} {pc : Nat} {lv : LV} {st : List AV} (C : Cx x l g M) {idx ci kf : Nat} {r : Option Nat} {v : AV} (d : decode M.1 pc = .ok (.getfield idx, 3)) (gf : GF M.2.2.1 idx ci kf) (e : mfV μ r ci kf = some v) (kk : V x g nL k n μ (pc + 3) lv (v :: st)) : V x g nL k n μ pc lv (aR r :: st) := by
  obtain ⟨p, l0, e0, R, s, m, args, below, meth, c, Q⟩ := x
  intro h0 H locs ls h1 h2 h3
  obtain ⟨a, fs, rfl, ha, hc, hv⟩ := mfV_spec e
  obtain ⟨Cn, T, N, q1, q2, q3, q4, q5⟩ := gf
  have hat : (hw g μ)[a]? = some (g.1.1 + a, .inr (ci, fs.map (av_v g.1))) := by rw [hw_at g μ ha, hc]; rfl
  have hfv : (fs.map (av_v g.1))[kf]? = some (av_v g.1 v) := by rw [List.getElem?_map, hv]; rfl
  rcases q5 with q5 | ⟨host, q5⟩
  · exact va_get C.1 C.2.1 C.2.2.2.2.1 q3 C.2.2.2.1 C.2.2.2.2.2.1 h1 a hat q1 kf q2 (C.2.2.2.2.1 _ q5) (by rw [q4]; exact fun _ z => z) hfv d (kk h0 H locs ls h1 h2 h3)
  · exact va_getN C.1 C.2.1 C.2.2.2.2.1 q3 C.2.2.2.1 C.2.2.2.2.2.1 h1 a hat q1 kf q2 (va_Nw.use rfl (Cns C _ q5)) (by rw [q4]; exact fun _ z => z) hfv d (kk h0 H locs ls h1 h2 h3)
theorem v_getI {x : CX} {l : Launch} {g : CG} {M : MI} {nL k n : Nat} {μ : Mem} {pc : Nat} {lv : LV} {st : List AV} (C : Cx x l g M) {idx ci kf : Nat} {r : Option Nat} {v : Int32} (d : decode M.1 pc = .ok (.getfield idx, 3)) (gf : GF M.2.2.1 idx ci kf) (e : mfI μ r ci kf = some v) (kk : V x g nL k n μ (pc + 3) lv (aI v :: st)) : V x g nL k n μ pc lv (aR r :: st) := v_getV C d gf (mfI_spec e) kk
theorem v_getJ {x : CX} {l : Launch} {g : CG} {M : MI} {nL k n : Nat} {μ : Mem} {pc : Nat} {lv : LV} {st : List AV} (C : Cx x l g M) {idx ci kf : Nat} {r : Option Nat} {v : Int64} (d : decode M.1 pc = .ok (.getfield idx, 3)) (gf : GF M.2.2.1 idx ci kf) (e : mfJ μ r ci kf = some v) (kk : V x g nL k n μ (pc + 3) lv (aJ v :: st)) : V x g nL k n μ pc lv (aR r :: st) := v_getV C d gf (mfJ_spec e) kk
theorem v_getR {x : CX} {l : Launch} {g : CG} {M : MI} {nL k n : Nat} {μ : Mem} {pc : Nat} {lv : LV} {st : List AV} (C : Cx x l g M) {idx ci kf : Nat} {r v : Option Nat} (d : decode M.1 pc = .ok (.getfield idx, 3)) (gf : GF M.2.2.1 idx ci kf) (e : mfR μ r ci kf = some v) (kk : V x g nL k n μ (pc + 3) lv (aR v :: st)) : V x g nL k n μ pc lv (aR r :: st) := v_getV C d gf (mfR_spec e) kk
theorem hold_set {g : CG} {μ : Mem} {H1 : Heap} {a : Nat} {E : ACl} {w : Nat × va_E} (hw0 : w = (g.1.1 + a, ac_c g E)) (h : va_P g.2.1 vwCl ((hw g μ).set a w) H1) : Hold g (μ.1, va_up μ.2 a E) H1 := by
  subst hw0
  rw [hw_set] at h
  exact h
theorem v_putV {x : CX} {l : Launch} {g : CG} {M : MI} {nL k n : Nat} {μ μ' : Mem} {pc : Nat} {lv : LV} {st : List AV} (C : Cx x l g M) {idx ci kf : Nat} {ty : FieldType} {r : Option Nat} {v : AV} (hn : narrow ty (av_v g.1 v) = av_v g.1 v) (hf : fits ty (av_v g.1 v) = true) (d : decode M.1 pc = .ok (.putfield idx, 3)) (pf : PF M.2.2.1 M.2.2.2.1 idx ci kf ty) (e : mpV μ r ci kf v = some μ') (kk : V x g nL k n μ' (pc + 3) lv st) : V x g nL k n μ pc lv (v :: aR r :: st) := by
  obtain ⟨p, l0, e0, R, s, m, args, below, meth, c, Q⟩ := x
  intro h0 H locs ls h1 h2 h3
  obtain ⟨a, fs, rfl, ha, hc, hk, rfl⟩ := mpV_spec e
  obtain ⟨Cn, T, N, ty0, q1, q2, q3, q4, q6, q7, q8, q5⟩ := pf
  have hat : (hw g μ)[a]? = some (g.1.1 + a, .inr (ci, fs.map (av_v g.1))) := by rw [hw_at g μ ha, hc]; rfl
  have hl : kf < (fs.map (av_v g.1)).length := by rw [List.length_map]; exact hk
  have fin : ∀ (H1 : Heap) (locs1 : List Loc), va_P g.2.1 vwCl ((hw g μ).set a (g.1.1 + a, .inr (ci, (fs.map (av_v g.1)).set kf (av_v g.1 v)))) H1 → va_D (fun q => g.1.1 ≤ q) ((hw g μ).set a (g.1.1 + a, .inr (ci, (fs.map (av_v g.1)).set kf (av_v g.1 v)))) → va_S (fun q => g.1.1 ≤ q) s.heap H1 locs1 → W p l0 e0 R s m args below meth c H1 locs1 k n Q (F0 m (pc + 3) ls (st.map (av_v g.1))) := fun H1 locs1 y _ w =>
    kk h0 H1 locs1 ls (hold_set (E := .inr (ci, fs.set kf v)) (by show _ = (_, Sum.inr (ci, (fs.set kf v).map (av_v g.1))); rw [List.map_set]) y) w h3
  have hsame : ∀ y, s.fieldFound? (T kf).1 (T kf).2.1 (T kf).2.2.1 = some y → s.fieldFound? Cn (T kf).2.1 (T kf).2.2.1 = some y := by rw [q4]; exact fun _ z => z
  rcases q5 with ⟨q5, q9 | ⟨host, q9⟩⟩ | ⟨q5, q9, q10, q11⟩
  · exact va_put C.1 C.2.1 C.2.2.2.2.1 q3 ty0 q6 q7 C.2.2.2.1 C.2.2.2.2.2.1 h1 (hw_D g μ) h2 a hat q1 kf q2 (C.2.2.2.2.1 _ q9) hsame q5 q8 hn hf hl d fin
  · exact va_putN C.1 C.2.1 C.2.2.2.2.1 q3 ty0 q6 q7 C.2.2.2.1 C.2.2.2.2.2.1 h1 (hw_D g μ) h2 a hat q1 kf q2 (va_Nw.use rfl (Cns C _ q9)) hsame q5 q8 hn hf hl d fin
  · exact va_putF C.1 C.2.1 C.2.2.2.2.1 q3 ty0 q6 q7 C.2.2.2.1 C.2.2.2.2.2.1 h1 (hw_D g μ) h2 a hat q1 kf q2 (C.2.2.2.2.1 _ q11) hsame q5 (C.2.2.2.2.2.2.2.2.2.2.2.1.trans q9) (q4.trans q10) q8 hn hf hl d fin
theorem v_putI {x : CX} {l : Launch} {g : CG} {M : MI} {nL k n : Nat} {μ μ2 : Mem} {pc : Nat} {lv : LV} {st : List AV} (C : Cx x l g M) {idx ci kf : Nat} {r : Option Nat} {v : Int32} (d : decode M.1 pc = .ok (.putfield idx, 3)) (pf : PF M.2.2.1 M.2.2.2.1 idx ci kf .int) (e : mpI μ r ci kf v = some μ2) (kk : V x g nL k n μ2 (pc + 3) lv st) : V x g nL k n μ pc lv (aI v :: aR r :: st) := v_putV C rfl rfl d pf e kk
theorem v_putJ {x : CX} {l : Launch} {g : CG} {M : MI} {nL k n : Nat} {μ μ2 : Mem} {pc : Nat} {lv : LV} {st : List AV} (C : Cx x l g M) {idx ci kf : Nat} {r : Option Nat} {v : Int64} (d : decode M.1 pc = .ok (.putfield idx, 3)) (pf : PF M.2.2.1 M.2.2.2.1 idx ci kf .long) (e : mpJ μ r ci kf v = some μ2) (kk : V x g nL k n μ2 (pc + 3) lv st) : V x g nL k n μ pc lv (aJ v :: aR r :: st) := v_putV C rfl rfl d pf e kk
theorem v_putR {x : CX} {l : Launch} {g : CG} {M : MI} {nL k n : Nat} {μ μ2 : Mem} {pc : Nat} {lv : LV} {st : List AV} (C : Cx x l g M) {idx ci kf : Nat} {ty : FieldType} {r v : Option Nat} (d : decode M.1 pc = .ok (.putfield idx, 3)) (pf : PF M.2.2.1 M.2.2.2.1 idx ci kf ty) (hty : refKind ty = true) (e : mpR μ r ci kf v = some μ2) (kk : V x g nL k n μ2 (pc + 3) lv st) : V x g nL k n μ pc lv (aR v :: aR r :: st) := by
  refine v_putV C ?_ ?_ d pf e kk
  · cases ty <;> first | (cases hty; done) | (cases v <;> rfl)
  · cases ty <;> first | (cases hty; done) | (cases v <;> rfl)
theorem bool_nar {x : Int32} (h : x = 0 ∨ x = 1) : narrow .boolean (.int x) = .int x ∧ fits .boolean (.int x) = true := by
  rcases h with rfl | rfl
  · exact ⟨rfl, rfl⟩
  · exact ⟨rfl, rfl⟩
theorem v_putZ {x : CX} {l : Launch} {g : CG} {M : MI} {nL k n : Nat} {μ μ2 : Mem} {pc : Nat} {lv : LV} {st : List AV} (C : Cx x l g M) {idx ci kf : Nat} {r : Option Nat} {v : Int32} (d : decode M.1 pc = .ok (.putfield idx, 3)) (pf : PF M.2.2.1 M.2.2.2.1 idx ci kf .boolean) (e : mpZ μ r ci kf v = some μ2) (kk : V x g nL k n μ2 (pc + 3) lv st) : V x g nL k n μ pc lv (aI v :: aR r :: st) := by
  unfold mpZ at e
  obtain ⟨hb, e⟩ := oy e
  exact v_putV C (bool_nar hb).1 (bool_nar hb).2 d pf e kk
