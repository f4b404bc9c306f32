/-! LAYER 0, arrays -/
theorem tyat {g : CG} (h : g.2.2.map (fun q => q.2) = arrTys) {t : Nat} {ty : FieldType} (ht : arrTys[t]? = some ty) : g.2.2[t]? = some ((g.2.2.getD t default).1, ty) := by
  have h1 : (g.2.2.map (fun q => q.2))[t]? = some ty := by rw [h]; exact ht
  rw [List.getElem?_map] at h1
  cases hq : g.2.2[t]? with
  | none => rw [hq] at h1; cases h1
  | some q =>
    rw [hq] at h1
    have h2 : q.2 = ty := Option.some.inj h1
    rw [List.getD_eq_getElem?_getD, hq]
    show some q = some (q.1, ty)
    rw [← h2]
theorem arr_at {g : CG} {μ : Mem} {a t n : Nat} {f : AA} (ha : a < μ.1) (hc : μ.2 a = .inl (t, n, f)) : (hw g μ)[a]? = some (g.1.1 + a, .inl ((g.2.2.getD t default).1, n, aa_c g.1 f)) := by rw [hw_at g μ ha, hc]; rfl
theorem v_iaload {x : CX} {l : Launch} {g : CG} {M : MI} {nL k n : Nat} {μ : Mem} {pc : Nat} {lv : LV} {st : List AV} (C : Cx x l g M) {i : Int32} {r : Option Nat} {v : Int32} (d : decode M.1 pc = .ok (.iaload, 1)) (e : maI μ 0 r i = some v) (kk : V x g nL k n μ (pc + 1) lv (aI v :: st)) : V x g nL k n μ pc lv (aI i :: aR r :: st) := by
  obtain ⟨p, l0, e0, R, s, m, args, below, meth, c, Q⟩ := x
  intro h0 H locs ls h1 h2 h3
  unfold maI at e
  split at e
  · rename_i N f ev
    obtain ⟨hin, e⟩ := oz e
    cases e
    obtain ⟨a, rfl, ha, hc⟩ := maV_spec ev
    exact va_iald C.1 C.2.1 C.2.2.2.2.2.1 h1 a 0 (arr_at ha hc) (tyat (Cty C) (t := 0) rfl) hin d (kk h0 H locs ls h1 h2 h3)
  · cases e
theorem v_baload {x : CX} {l : Launch} {g : CG} {M : MI} {nL k n : Nat} {μ : Mem} {pc : Nat} {lv : LV} {st : List AV} (C : Cx x l g M) {i : Int32} {r : Option Nat} {v : Int32} (d : decode M.1 pc = .ok (.baload, 1)) (e : maI μ 2 r i = some v) (kk : V x g nL k n μ (pc + 1) lv (aI v :: st)) : V x g nL k n μ pc lv (aI i :: aR r :: st) := by
  obtain ⟨p, l0, e0, R, s, m, args, below, meth, c, Q⟩ := x
  intro h0 H locs ls h1 h2 h3
  unfold maI at e
  split at e
  · rename_i N f ev
    obtain ⟨hin, e⟩ := oz e
    cases e
    obtain ⟨a, rfl, ha, hc⟩ := maV_spec ev
    exact va_zald C.1 C.2.1 C.2.2.2.2.2.1 h1 a 2 (arr_at ha hc) (tyat (Cty C) (t := 2) rfl) hin d (kk h0 H locs ls h1 h2 h3)
  · cases e
theorem v_laload {x : CX} {l : Launch} {g : CG} {M : MI} {nL k n : Nat} {μ : Mem} {pc : Nat} {lv : LV} {st : List AV} (C : Cx x l g M) {i : Int32} {r : Option Nat} {v : Int64} (d : decode M.1 pc = .ok (.laload, 1)) (e : maJ μ 1 r i = some v) (kk : V x g nL k n μ (pc + 1) lv (aJ v :: st)) : V x g nL k n μ pc lv (aI i :: aR r :: st) := by
  obtain ⟨p, l0, e0, R, s, m, args, below, meth, c, Q⟩ := x
  intro h0 H locs ls h1 h2 h3
  unfold maJ at e
  split at e
  · rename_i N f ev
    obtain ⟨hin, e⟩ := oz e
    cases e
    obtain ⟨a, rfl, ha, hc⟩ := maV_spec ev
    exact va_lald C.1 C.2.1 C.2.2.2.2.2.1 h1 a 1 (arr_at ha hc) (tyat (Cty C) (t := 1) rfl) hin d (kk h0 H locs ls h1 h2 h3)
  · cases e
theorem v_aaload4 {x : CX} {l : Launch} {g : CG} {M : MI} {nL k n : Nat} {μ : Mem} {pc : Nat} {lv : LV} {st : List AV} (C : Cx x l g M) {i : Int32} {r : Option Nat} {v : Option Nat} (d : decode M.1 pc = .ok (.aaload, 1)) (e : maR μ 4 r i = some v) (kk : V x g nL k n μ (pc + 1) lv (aR v :: st)) : V x g nL k n μ pc lv (aI i :: aR r :: st) := by
  obtain ⟨p, l0, e0, R, s, m, args, below, meth, c, Q⟩ := x
  intro h0 H locs ls h1 h2 h3
  unfold maR at e
  split at e
  · rename_i N f ev
    obtain ⟨hin, e⟩ := oz e
    cases e
    obtain ⟨a, rfl, ha, hc⟩ := maV_spec ev
    exact va_aldq C.1 C.2.1 C.2.2.2.2.2.1 h1 a 4 (arr_at ha hc) (tyat (Cty C) (t := 4) rfl) hin d (kk h0 H locs ls h1 h2 h3)
  · cases e
theorem v_aaload5 {x : CX} {l : Launch} {g : CG} {M : MI} {nL k n : Nat} {μ : Mem} {pc : Nat} {lv : LV} {st : List AV} (C : Cx x l g M) {i : Int32} {r : Option Nat} {v : Option Nat} (d : decode M.1 pc = .ok (.aaload, 1)) (e : maR μ 5 r i = some v) (kk : V x g nL k n μ (pc + 1) lv (aR v :: st)) : V x g nL k n μ pc lv (aI i :: aR r :: st) := by
  obtain ⟨p, l0, e0, R, s, m, args, below, meth, c, Q⟩ := x
  intro h0 H locs ls h1 h2 h3
  unfold maR at e
  split at e
  · rename_i N f ev
    obtain ⟨hin, e⟩ := oz e
    cases e
    obtain ⟨a, rfl, ha, hc⟩ := maV_spec ev
    exact va_aldq C.1 C.2.1 C.2.2.2.2.2.1 h1 a 5 (arr_at ha hc) (tyat (Cty C) (t := 5) rfl) hin d (kk h0 H locs ls h1 h2 h3)
  · cases e
theorem nar_bool {x : Int32} (h : x = 0 ∨ x = 1) : vp_nar .boolean x = x := by
  rcases h with rfl | rfl <;> rfl
theorem v_iastore {x : CX} {l : Launch} {g : CG} {M : MI} {nL k n : Nat} {μ μ2 : Mem} {pc : Nat} {lv : LV} {st : List AV} (C : Cx x l g M) {i : Int32} {r : Option Nat} {v : Int32} (d : decode M.1 pc = .ok (.iastore, 1)) (e : mbI μ 0 r i v = some μ2) (kk : V x g nL k n μ2 (pc + 1) lv st) : V x g nL k n μ pc lv (aI v :: aI i :: aR r :: st) := by
  obtain ⟨p, l0, e0, R, s, m, args, below, meth, c, Q⟩ := x
  intro h0 H locs ls h1 h2 h3
  unfold mbI at e
  split at e
  · rename_i N f ev
    obtain ⟨hin, e⟩ := oz e
    obtain ⟨a, rfl, ha, hc⟩ := maV_spec ev
    cases e
    exact va_iast C.1 C.2.1 C.2.2.2.2.2.1 h1 (hw_D g μ) h2 a 0 (arr_at ha hc) (tyat (Cty C) (t := 0) rfl) hin d (fun H1 locs1 y _ w => kk h0 H1 locs1 ls (hold_set (E := .inl (0, N, .inl (upd f i.toNatClampNeg v))) (by rfl) y) w h3)
  · cases e
theorem v_bastore {x : CX} {l : Launch} {g : CG} {M : MI} {nL k n : Nat} {μ μ2 : Mem} {pc : Nat} {lv : LV} {st : List AV} (C : Cx x l g M) {i : Int32} {r : Option Nat} {v : Int32} (d : decode M.1 pc = .ok (.bastore, 1)) (e : mbZ μ 2 r i v = some μ2) (kk : V x g nL k n μ2 (pc + 1) lv st) : V x g nL k n μ pc lv (aI v :: aI i :: aR r :: st) := by
  obtain ⟨p, l0, e0, R, s, m, args, below, meth, c, Q⟩ := x
  intro h0 H locs ls h1 h2 h3
  unfold mbZ at e
  split at e
  · rename_i N f ev
    obtain ⟨hin, e⟩ := oz e
    obtain ⟨hz, e⟩ := oy e
    obtain ⟨a, rfl, ha, hc⟩ := maV_spec ev
    cases e
    exact va_zast C.1 C.2.1 C.2.2.2.2.2.1 h1 (hw_D g μ) h2 a 2 (arr_at ha hc) (tyat (Cty C) (t := 2) rfl) hin d (fun H1 locs1 y _ w => kk h0 H1 locs1 ls (hold_set (E := .inl (2, N, .inl (upd f i.toNatClampNeg v))) (by rw [nar_bool hz]; rfl) y) w h3)
  · cases e
theorem v_lastore {x : CX} {l : Launch} {g : CG} {M : MI} {nL k n : Nat} {μ μ2 : Mem} {pc : Nat} {lv : LV} {st : List AV} (C : Cx x l g M) {i : Int32} {r : Option Nat} {v : Int64} (d : decode M.1 pc = .ok (.lastore, 1)) (e : mbJ μ 1 r i v = some μ2) (kk : V x g nL k n μ2 (pc + 1) lv st) : V x g nL k n μ pc lv (aJ v :: aI i :: aR r :: st) := by
  obtain ⟨p, l0, e0, R, s, m, args, below, meth, c, Q⟩ := x
  intro h0 H locs ls h1 h2 h3
  unfold mbJ at e
  split at e
  · rename_i N f ev
    obtain ⟨hin, e⟩ := oz e
    obtain ⟨a, rfl, ha, hc⟩ := maV_spec ev
    cases e
    exact va_last C.1 C.2.1 C.2.2.2.2.2.1 h1 (hw_D g μ) h2 a 1 (arr_at ha hc) (tyat (Cty C) (t := 1) rfl) hin d (fun H1 locs1 y _ w => kk h0 H1 locs1 ls (hold_set (E := .inl (1, N, .inr (.inl (vp_updL f i.toNatClampNeg v)))) (by rfl) y) w h3)
  · cases e
theorem v_alen {x : CX} {l : Launch} {g : CG} {M : MI} {nL k n : Nat} {μ : Mem} {pc : Nat} {lv : LV} {st : List AV} (C : Cx x l g M) {r : Option Nat} {v : Int32} (d : decode M.1 pc = .ok (.arraylength, 1)) (e : mal μ r = some v) (kk : V x g nL k n μ (pc + 1) lv (aI v :: st)) : V x g nL k n μ pc lv (aR r :: st) := by
  obtain ⟨p, l0, e0, R, s, m, args, below, meth, c, Q⟩ := x
  intro h0 H locs ls h1 h2 h3
  cases r with
  | none => cases e
  | some a =>
    unfold mal at e
    obtain ⟨ha, e⟩ := oy e
    rcases hc : μ.2 a with ⟨t, N, f⟩ | y
    · rw [hc] at e
      dsimp only at e
      obtain ⟨ht, e⟩ := oy e
      have hty : arrTys[t]? = some (arrTys.getD t .int) := by
        rw [List.getD_eq_getElem?_getD]
        have : t < arrTys.length := ht
        rw [List.getElem?_eq_getElem this]
        rfl
      exact va_alen C.1 C.2.1 C.2.2.2.2.2.1 h1 a t (arr_at ha hc) (tyat (Cty C) hty) (Option.some.inj e) d (kk h0 H locs ls h1 h2 h3)
    · rw [hc] at e; cases e
