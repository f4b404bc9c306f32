/-! LAYER 2, reading and writing made total: oI oR (fields), vI vR (arrays); sI sR (put a field), wI wR (put an element): they act only where the type fits, so that types never change -/
def fld (c : ACl) (k : Nat) : Option AV := match c with
  | .inr (_, fs) => fs[k]?
  | .inl _ => none
def fI (o : Option AV) : Option Int32 := match o with
  | some (.inl x) => some x
  | _ => none
def fR (o : Option AV) : Option (Option Nat) := match o with
  | some (.inr (.inr (.inl r))) => some r
  | _ => none
def elI (c : ACl) : Option (Nat × Nat × (Nat → Int32)) := match c with
  | .inl (t, n, .inl f) => some (t, n, f)
  | _ => none
def elR (c : ACl) : Option (Nat × Nat × (Nat → Option Nat)) := match c with
  | .inl (t, n, .inr (.inr f)) => some (t, n, f)
  | _ => none
def cls (c : ACl) : Option Nat := match c with
  | .inr (ci, _) => some ci
  | .inl _ => none
def oI (μ : Mem) (a k : Nat) : Int32 := (fI (fld (μ.2 a) k)).getD 0
def oR (μ : Mem) (a k : Nat) : Option Nat := (fR (fld (μ.2 a) k)).getD none
def vI (μ : Mem) (a i : Nat) : Int32 := match elI (μ.2 a) with
  | some (_, _, f) => f i
  | none => 0
def vR (μ : Mem) (a i : Nat) : Option Nat := match elR (μ.2 a) with
  | some (_, _, f) => f i
  | none => none
/-- cell a is an object of class ci; its field k is an int, a reference -/
def tO (μ : Mem) (a ci : Nat) : Prop := a < μ.1 ∧ cls (μ.2 a) = some ci
def tI (μ : Mem) (a ci k : Nat) : Prop := tO μ a ci ∧ (fI (fld (μ.2 a) k)).isSome = true
def tR (μ : Mem) (a ci k : Nat) : Prop := tO μ a ci ∧ (fR (fld (μ.2 a) k)).isSome = true
/-- cell a is an array of ints, of references, with tag t and length n -/
def tA (μ : Mem) (a t n : Nat) : Prop := a < μ.1 ∧ ∃ f, elI (μ.2 a) = some (t, n, f)
def tQ (μ : Mem) (a t n : Nat) : Prop := a < μ.1 ∧ ∃ f, elR (μ.2 a) = some (t, n, f)
def cI (k : Nat) (x : Int32) (c : ACl) : ACl := match c with
  | .inr (ci, fs) => if (fI fs[k]?).isSome then .inr (ci, fs.set k (aI x)) else c
  | .inl _ => c
def cR (k : Nat) (x : Option Nat) (c : ACl) : ACl := match c with
  | .inr (ci, fs) => if (fR fs[k]?).isSome then .inr (ci, fs.set k (aR x)) else c
  | .inl _ => c
def dI (i : Nat) (x : Int32) (c : ACl) : ACl := match elI c with
  | some (t, n, f) => .inl (t, n, .inl (upd f i x))
  | none => c
def dR (i : Nat) (x : Option Nat) (c : ACl) : ACl := match elR c with
  | some (t, n, f) => .inl (t, n, .inr (.inr (va_up f i x)))
  | none => c
def mu (μ : Mem) (a : Nat) (h : ACl → ACl) : Mem := (μ.1, va_up μ.2 a (h (μ.2 a)))
def sI (μ : Mem) (a k : Nat) (x : Int32) : Mem := mu μ a (cI k x)
def sR (μ : Mem) (a k : Nat) (x : Option Nat) : Mem := mu μ a (cR k x)
def wI (μ : Mem) (a i : Nat) (x : Int32) : Mem := mu μ a (dI i x)
def wR (μ : Mem) (a i : Nat) (x : Option Nat) : Mem := mu μ a (dR i x)
theorem mu_at (μ : Mem) (a b : Nat) (h : ACl → ACl) : (mu μ a h).2 b = if b = a then h (μ.2 b) else μ.2 b := by
  unfold mu va_up
  dsimp only
  by_cases hb : b = a
  · rw [if_pos hb, if_pos hb, hb]
  · rw [if_neg hb, if_neg hb]
theorem mu_n (μ : Mem) (a : Nat) (h : ACl → ACl) : (mu μ a h).1 = μ.1 := rfl
theorem fI_some {o : Option AV} (h : (fI o).isSome = true) : ∃ x, o = some (aI x) := by
  rcases o with _ | x | x | x | x
  · cases h
  · exact ⟨x, rfl⟩
  · cases h
  · cases h
  · cases h
theorem fR_some {o : Option AV} (h : (fR o).isSome = true) : ∃ x, o = some (aR x) := by
  rcases o with _ | x | x | x | x
  · cases h
  · cases h
  · cases h
  · exact ⟨x, rfl⟩
  · cases h
-- what a changed cell shows
theorem cI_fld (k j : Nat) (x : Int32) (c : ACl) : fld (cI k x c) j = if j = k ∧ (fI (fld c k)).isSome = true then some (aI x) else fld c j := by
  rcases c with a | ⟨ci, fs⟩
  · simp [cI, fld, fI]
  · by_cases h : (fI fs[k]?).isSome = true
    · obtain ⟨y, hy⟩ := fI_some h
      have hl : k < fs.length := (List.getElem?_eq_some_iff.mp hy).1
      simp only [cI, fld, h, if_true, and_true, List.getElem?_set]
      by_cases hj : j = k
      · subst hj; simp [hl]
      · simp [hj, Ne.symm hj]
    · simp [cI, fld, h]
theorem cR_fld (k j : Nat) (x : Option Nat) (c : ACl) : fld (cR k x c) j = if j = k ∧ (fR (fld c k)).isSome = true then some (aR x) else fld c j := by
  rcases c with a | ⟨ci, fs⟩
  · simp [cR, fld, fR]
  · by_cases h : (fR fs[k]?).isSome = true
    · obtain ⟨y, hy⟩ := fR_some h
      have hl : k < fs.length := (List.getElem?_eq_some_iff.mp hy).1
      simp only [cR, fld, h, if_true, and_true, List.getElem?_set]
      by_cases hj : j = k
      · subst hj; simp [hl]
      · simp [hj, Ne.symm hj]
    · simp [cR, fld, h]
theorem cI_cls (k : Nat) (x : Int32) (c : ACl) : cls (cI k x c) = cls c := by
  rcases c with a | ⟨ci, fs⟩
  · rfl
  · unfold cI; dsimp only; split <;> rfl
theorem cR_cls (k : Nat) (x : Option Nat) (c : ACl) : cls (cR k x c) = cls c := by
  rcases c with a | ⟨ci, fs⟩
  · rfl
  · unfold cR; dsimp only; split <;> rfl
theorem cI_elI (k : Nat) (x : Int32) (c : ACl) : elI (cI k x c) = elI c := by
  rcases c with a | ⟨ci, fs⟩
  · rfl
  · unfold cI; dsimp only; split <;> rfl
theorem cI_elR (k : Nat) (x : Int32) (c : ACl) : elR (cI k x c) = elR c := by
  rcases c with a | ⟨ci, fs⟩
  · rfl
  · unfold cI; dsimp only; split <;> rfl
theorem cR_elI (k : Nat) (x : Option Nat) (c : ACl) : elI (cR k x c) = elI c := by
  rcases c with a | ⟨ci, fs⟩
  · rfl
  · unfold cR; dsimp only; split <;> rfl
theorem cR_elR (k : Nat) (x : Option Nat) (c : ACl) : elR (cR k x c) = elR c := by
  rcases c with a | ⟨ci, fs⟩
  · rfl
  · unfold cR; dsimp only; split <;> rfl
theorem dI_fld (i j : Nat) (x : Int32) (c : ACl) : fld (dI i x c) j = fld c j := by
  rcases c with ⟨t, n, f | f | f⟩ | o <;> rfl
theorem dI_cls (i : Nat) (x : Int32) (c : ACl) : cls (dI i x c) = cls c := by
  rcases c with ⟨t, n, f | f | f⟩ | o <;> rfl
theorem dR_fld (i j : Nat) (x : Option Nat) (c : ACl) : fld (dR i x c) j = fld c j := by
  rcases c with ⟨t, n, f | f | f⟩ | o <;> rfl
theorem dR_cls (i : Nat) (x : Option Nat) (c : ACl) : cls (dR i x c) = cls c := by
  rcases c with ⟨t, n, f | f | f⟩ | o <;> rfl
theorem dI_elI (i : Nat) (x : Int32) (c : ACl) : elI (dI i x c) = (elI c).map (fun q => (q.1, q.2.1, upd q.2.2 i x)) := by
  rcases c with ⟨t, n, f | f | f⟩ | o <;> rfl
theorem dI_elR (i : Nat) (x : Int32) (c : ACl) : elR (dI i x c) = elR c := by
  rcases c with ⟨t, n, f | f | f⟩ | o <;> rfl
theorem dR_elR (i : Nat) (x : Option Nat) (c : ACl) : elR (dR i x c) = (elR c).map (fun q => (q.1, q.2.1, va_up q.2.2 i x)) := by
  rcases c with ⟨t, n, f | f | f⟩ | o <;> rfl
theorem dR_elI (i : Nat) (x : Option Nat) (c : ACl) : elI (dR i x c) = elI c := by
  rcases c with ⟨t, n, f | f | f⟩ | o <;> rfl
-- types stay
theorem tO_mu {μ : Mem} {a b ci : Nat} {h : ACl → ACl} (hc : ∀ c, cls (h c) = cls c) : tO (mu μ a h) b ci ↔ tO μ b ci := by
  unfold tO
  rw [mu_at, mu_n]
  by_cases hb : b = a
  · rw [if_pos hb, hc]
  · rw [if_neg hb]
theorem fI_cI (k j : Nat) (x : Int32) (c : ACl) : (fI (fld (cI k x c) j)).isSome = (fI (fld c j)).isSome := by
  rw [cI_fld]
  by_cases h : j = k ∧ (fI (fld c k)).isSome = true
  · rw [if_pos h]; obtain ⟨rfl, h⟩ := h; rw [h]; rfl
  · rw [if_neg h]
theorem fR_cI (k j : Nat) (x : Int32) (c : ACl) : fR (fld (cI k x c) j) = fR (fld c j) := by
  rw [cI_fld]
  by_cases h : j = k ∧ (fI (fld c k)).isSome = true
  · rw [if_pos h]; obtain ⟨rfl, h⟩ := h; obtain ⟨y, hy⟩ := fI_some h; rw [hy]; rfl
  · rw [if_neg h]
theorem fR_cR (k j : Nat) (x : Option Nat) (c : ACl) : (fR (fld (cR k x c) j)).isSome = (fR (fld c j)).isSome := by
  rw [cR_fld]
  by_cases h : j = k ∧ (fR (fld c k)).isSome = true
  · rw [if_pos h]; obtain ⟨rfl, h⟩ := h; rw [h]; rfl
  · rw [if_neg h]
theorem fI_cR (k j : Nat) (x : Option Nat) (c : ACl) : fI (fld (cR k x c) j) = fI (fld c j) := by
  rw [cR_fld]
  by_cases h : j = k ∧ (fR (fld c k)).isSome = true
  · rw [if_pos h]; obtain ⟨rfl, h⟩ := h; obtain ⟨y, hy⟩ := fR_some h; rw [hy]; rfl
  · rw [if_neg h]
theorem sI_n (μ : Mem) (a : Nat) (k0 : Nat) (x : Int32) : (sI μ a k0 x).1 = μ.1 := rfl
theorem tO_sI (μ : Mem) (a b ci : Nat) (k0 : Nat) (x : Int32) : tO (sI μ a k0 x) b ci ↔ tO μ b ci := tO_mu (cI_cls k0 x)
theorem tI_sI (μ : Mem) (a b ci k : Nat) (k0 : Nat) (x : Int32) : tI (sI μ a k0 x) b ci k ↔ tI μ b ci k := by
  unfold tI
  rw [tO_sI]
  unfold sI
  rw [mu_at]
  by_cases hb : b = a
  · rw [if_pos hb, fI_cI]
  · rw [if_neg hb]
theorem tR_sI (μ : Mem) (a b ci k : Nat) (k0 : Nat) (x : Int32) : tR (sI μ a k0 x) b ci k ↔ tR μ b ci k := by
  unfold tR
  rw [tO_sI]
  unfold sI
  rw [mu_at]
  by_cases hb : b = a
  · rw [if_pos hb, fR_cI]
  · rw [if_neg hb]
theorem tA_sI (μ : Mem) (a b t n : Nat) (k0 : Nat) (x : Int32) : tA (sI μ a k0 x) b t n ↔ tA μ b t n := by
  unfold tA sI
  rw [mu_n]
  rw [mu_at]
  by_cases hb : b = a
  · rw [if_pos hb, cI_elI]
  · rw [if_neg hb]
theorem tQ_sI (μ : Mem) (a b t n : Nat) (k0 : Nat) (x : Int32) : tQ (sI μ a k0 x) b t n ↔ tQ μ b t n := by
  unfold tQ sI
  rw [mu_n]
  rw [mu_at]
  by_cases hb : b = a
  · rw [if_pos hb, cI_elR]
  · rw [if_neg hb]
theorem oR_sI (μ : Mem) (a b k : Nat) (k0 : Nat) (x : Int32) : oR (sI μ a k0 x) b k = oR μ b k := by
  unfold oR sI
  rw [mu_at]
  by_cases hb : b = a
  · rw [if_pos hb, fR_cI]
  · rw [if_neg hb]
theorem vI_sI (μ : Mem) (a b i : Nat) (k0 : Nat) (x : Int32) : vI (sI μ a k0 x) b i = vI μ b i := by
  unfold vI sI
  rw [mu_at]
  by_cases hb : b = a
  · rw [if_pos hb, cI_elI]
  · rw [if_neg hb]
theorem vR_sI (μ : Mem) (a b i : Nat) (k0 : Nat) (x : Int32) : vR (sI μ a k0 x) b i = vR μ b i := by
  unfold vR sI
  rw [mu_at]
  by_cases hb : b = a
  · rw [if_pos hb, cI_elR]
  · rw [if_neg hb]
theorem sR_n (μ : Mem) (a : Nat) (k0 : Nat) (x : Option Nat) : (sR μ a k0 x).1 = μ.1 := rfl
theorem tO_sR (μ : Mem) (a b ci : Nat) (k0 : Nat) (x : Option Nat) : tO (sR μ a k0 x) b ci ↔ tO μ b ci := tO_mu (cR_cls k0 x)
theorem tI_sR (μ : Mem) (a b ci k : Nat) (k0 : Nat) (x : Option Nat) : tI (sR μ a k0 x) b ci k ↔ tI μ b ci k := by
  unfold tI
  rw [tO_sR]
  unfold sR
  rw [mu_at]
  by_cases hb : b = a
  · rw [if_pos hb, fI_cR]
  · rw [if_neg hb]
theorem tR_sR (μ : Mem) (a b ci k : Nat) (k0 : Nat) (x : Option Nat) : tR (sR μ a k0 x) b ci k ↔ tR μ b ci k := by
  unfold tR
  rw [tO_sR]
  unfold sR
  rw [mu_at]
  by_cases hb : b = a
  · rw [if_pos hb, fR_cR]
  · rw [if_neg hb]
theorem tA_sR (μ : Mem) (a b t n : Nat) (k0 : Nat) (x : Option Nat) : tA (sR μ a k0 x) b t n ↔ tA μ b t n := by
  unfold tA sR
  rw [mu_n]
  rw [mu_at]
  by_cases hb : b = a
  · rw [if_pos hb, cR_elI]
  · rw [if_neg hb]
theorem tQ_sR (μ : Mem) (a b t n : Nat) (k0 : Nat) (x : Option Nat) : tQ (sR μ a k0 x) b t n ↔ tQ μ b t n := by
  unfold tQ sR
  rw [mu_n]
  rw [mu_at]
  by_cases hb : b = a
  · rw [if_pos hb, cR_elR]
  · rw [if_neg hb]
theorem oI_sR (μ : Mem) (a b k : Nat) (k0 : Nat) (x : Option Nat) : oI (sR μ a k0 x) b k = oI μ b k := by
  unfold oI sR
  rw [mu_at]
  by_cases hb : b = a
  · rw [if_pos hb, fI_cR]
  · rw [if_neg hb]
theorem vI_sR (μ : Mem) (a b i : Nat) (k0 : Nat) (x : Option Nat) : vI (sR μ a k0 x) b i = vI μ b i := by
  unfold vI sR
  rw [mu_at]
  by_cases hb : b = a
  · rw [if_pos hb, cR_elI]
  · rw [if_neg hb]
theorem vR_sR (μ : Mem) (a b i : Nat) (k0 : Nat) (x : Option Nat) : vR (sR μ a k0 x) b i = vR μ b i := by
  unfold vR sR
  rw [mu_at]
  by_cases hb : b = a
  · rw [if_pos hb, cR_elR]
  · rw [if_neg hb]
theorem wI_n (μ : Mem) (a : Nat) (k0 : Nat) (x : Int32) : (wI μ a k0 x).1 = μ.1 := rfl
theorem tO_wI (μ : Mem) (a b ci : Nat) (k0 : Nat) (x : Int32) : tO (wI μ a k0 x) b ci ↔ tO μ b ci := tO_mu (dI_cls k0 x)
theorem tI_wI (μ : Mem) (a b ci k : Nat) (k0 : Nat) (x : Int32) : tI (wI μ a k0 x) b ci k ↔ tI μ b ci k := by
  unfold tI
  rw [tO_wI]
  unfold wI
  rw [mu_at]
  by_cases hb : b = a
  · rw [if_pos hb, dI_fld]
  · rw [if_neg hb]
theorem tR_wI (μ : Mem) (a b ci k : Nat) (k0 : Nat) (x : Int32) : tR (wI μ a k0 x) b ci k ↔ tR μ b ci k := by
  unfold tR
  rw [tO_wI]
  unfold wI
  rw [mu_at]
  by_cases hb : b = a
  · rw [if_pos hb, dI_fld]
  · rw [if_neg hb]
theorem tA_wI (μ : Mem) (a b t n : Nat) (k0 : Nat) (x : Int32) : tA (wI μ a k0 x) b t n ↔ tA μ b t n := by
  unfold tA wI
  rw [mu_n, mu_at]
  by_cases hb : b = a
  · rw [if_pos hb, dI_elI]
    cases he : elI (μ.2 b) with
    | none => simp
    | some q => obtain ⟨t1, n1, f1⟩ := q; simp
  · rw [if_neg hb]
theorem tQ_wI (μ : Mem) (a b t n : Nat) (k0 : Nat) (x : Int32) : tQ (wI μ a k0 x) b t n ↔ tQ μ b t n := by
  unfold tQ wI
  rw [mu_n]
  rw [mu_at]
  by_cases hb : b = a
  · rw [if_pos hb, dI_elR]
  · rw [if_neg hb]
theorem oI_wI (μ : Mem) (a b k : Nat) (k0 : Nat) (x : Int32) : oI (wI μ a k0 x) b k = oI μ b k := by
  unfold oI wI
  rw [mu_at]
  by_cases hb : b = a
  · rw [if_pos hb, dI_fld]
  · rw [if_neg hb]
theorem oR_wI (μ : Mem) (a b k : Nat) (k0 : Nat) (x : Int32) : oR (wI μ a k0 x) b k = oR μ b k := by
  unfold oR wI
  rw [mu_at]
  by_cases hb : b = a
  · rw [if_pos hb, dI_fld]
  · rw [if_neg hb]
theorem vR_wI (μ : Mem) (a b i : Nat) (k0 : Nat) (x : Int32) : vR (wI μ a k0 x) b i = vR μ b i := by
  unfold vR wI
  rw [mu_at]
  by_cases hb : b = a
  · rw [if_pos hb, dI_elR]
  · rw [if_neg hb]
theorem wR_n (μ : Mem) (a : Nat) (k0 : Nat) (x : Option Nat) : (wR μ a k0 x).1 = μ.1 := rfl
theorem tO_wR (μ : Mem) (a b ci : Nat) (k0 : Nat) (x : Option Nat) : tO (wR μ a k0 x) b ci ↔ tO μ b ci := tO_mu (dR_cls k0 x)
theorem tI_wR (μ : Mem) (a b ci k : Nat) (k0 : Nat) (x : Option Nat) : tI (wR μ a k0 x) b ci k ↔ tI μ b ci k := by
  unfold tI
  rw [tO_wR]
  unfold wR
  rw [mu_at]
  by_cases hb : b = a
  · rw [if_pos hb, dR_fld]
  · rw [if_neg hb]
theorem tR_wR (μ : Mem) (a b ci k : Nat) (k0 : Nat) (x : Option Nat) : tR (wR μ a k0 x) b ci k ↔ tR μ b ci k := by
  unfold tR
  rw [tO_wR]
  unfold wR
  rw [mu_at]
  by_cases hb : b = a
  · rw [if_pos hb, dR_fld]
  · rw [if_neg hb]
theorem tA_wR (μ : Mem) (a b t n : Nat) (k0 : Nat) (x : Option Nat) : tA (wR μ a k0 x) b t n ↔ tA μ b t n := by
  unfold tA wR
  rw [mu_n]
  rw [mu_at]
  by_cases hb : b = a
  · rw [if_pos hb, dR_elI]
  · rw [if_neg hb]
theorem tQ_wR (μ : Mem) (a b t n : Nat) (k0 : Nat) (x : Option Nat) : tQ (wR μ a k0 x) b t n ↔ tQ μ b t n := by
  unfold tQ wR
  rw [mu_n, mu_at]
  by_cases hb : b = a
  · rw [if_pos hb, dR_elR]
    cases he : elR (μ.2 b) with
    | none => simp
    | some q => obtain ⟨t1, n1, f1⟩ := q; simp
  · rw [if_neg hb]
theorem oI_wR (μ : Mem) (a b k : Nat) (k0 : Nat) (x : Option Nat) : oI (wR μ a k0 x) b k = oI μ b k := by
  unfold oI wR
  rw [mu_at]
  by_cases hb : b = a
  · rw [if_pos hb, dR_fld]
  · rw [if_neg hb]
theorem oR_wR (μ : Mem) (a b k : Nat) (k0 : Nat) (x : Option Nat) : oR (wR μ a k0 x) b k = oR μ b k := by
  unfold oR wR
  rw [mu_at]
  by_cases hb : b = a
  · rw [if_pos hb, dR_fld]
  · rw [if_neg hb]
theorem vI_wR (μ : Mem) (a b i : Nat) (k0 : Nat) (x : Option Nat) : vI (wR μ a k0 x) b i = vI μ b i := by
  unfold vI wR
  rw [mu_at]
  by_cases hb : b = a
  · rw [if_pos hb, dR_elI]
  · rw [if_neg hb]
theorem oI_sI (μ : Mem) (a b k k0 : Nat) (x : Int32) : oI (sI μ a k0 x) b k = if b = a ∧ k = k0 ∧ (fI (fld (μ.2 a) k0)).isSome = true then x else oI μ b k := by
  unfold oI sI
  rw [mu_at]
  by_cases hb : b = a
  · subst hb
    rw [if_pos rfl, cI_fld]
    by_cases h : k = k0 ∧ (fI (fld (μ.2 b) k0)).isSome = true
    · rw [if_pos h, if_pos ⟨rfl, h⟩]; rfl
    · rw [if_neg h, if_neg (fun z => h z.2)]
  · rw [if_neg hb, if_neg (fun z => hb z.1)]
theorem oR_sR (μ : Mem) (a b k k0 : Nat) (x : Option Nat) : oR (sR μ a k0 x) b k = if b = a ∧ k = k0 ∧ (fR (fld (μ.2 a) k0)).isSome = true then x else oR μ b k := by
  unfold oR sR
  rw [mu_at]
  by_cases hb : b = a
  · subst hb
    rw [if_pos rfl, cR_fld]
    by_cases h : k = k0 ∧ (fR (fld (μ.2 b) k0)).isSome = true
    · rw [if_pos h, if_pos ⟨rfl, h⟩]; rfl
    · rw [if_neg h, if_neg (fun z => h z.2)]
  · rw [if_neg hb, if_neg (fun z => hb z.1)]
theorem oI_sI_eq {μ : Mem} {a ci k : Nat} (h : tI μ a ci k) (x : Int32) : oI (sI μ a k x) a k = x := by
  rw [oI_sI, if_pos ⟨rfl, rfl, h.2⟩]
theorem oI_sI_k (μ : Mem) (a b : Nat) {k k0 : Nat} (h : k ≠ k0) (x : Int32) : oI (sI μ a k0 x) b k = oI μ b k := by
  rw [oI_sI, if_neg (fun z => h z.2.1)]
theorem oI_sI_a (μ : Mem) {a b : Nat} (k k0 : Nat) (h : b ≠ a) (x : Int32) : oI (sI μ a k0 x) b k = oI μ b k := by
  rw [oI_sI, if_neg (fun z => h z.1)]
theorem oR_sR_eq {μ : Mem} {a ci k : Nat} (h : tR μ a ci k) (x : Option Nat) : oR (sR μ a k x) a k = x := by
  rw [oR_sR, if_pos ⟨rfl, rfl, h.2⟩]
theorem oR_sR_k (μ : Mem) (a b : Nat) {k k0 : Nat} (h : k ≠ k0) (x : Option Nat) : oR (sR μ a k0 x) b k = oR μ b k := by
  rw [oR_sR, if_neg (fun z => h z.2.1)]
theorem oR_sR_a (μ : Mem) {a b : Nat} (k k0 : Nat) (h : b ≠ a) (x : Option Nat) : oR (sR μ a k0 x) b k = oR μ b k := by
  rw [oR_sR, if_neg (fun z => h z.1)]
theorem vI_wI (μ : Mem) (a b i i0 : Nat) (x : Int32) : vI (wI μ a i0 x) b i = if b = a ∧ i = i0 ∧ (elI (μ.2 a)).isSome = true then x else vI μ b i := by
  unfold vI wI
  rw [mu_at]
  by_cases hb : b = a
  · subst hb
    rw [if_pos rfl, dI_elI]
    cases he : elI (μ.2 b) with
    | none => simp
    | some q =>
      obtain ⟨t, n, f⟩ := q
      by_cases hi : i = i0
      · subst hi; simp [upd]
      · simp [upd, hi]
  · rw [if_neg hb, if_neg (fun z => hb z.1)]
theorem vI_wI_eq {μ : Mem} {a t n : Nat} (h : tA μ a t n) (i : Nat) (x : Int32) : vI (wI μ a i x) a i = x := by
  obtain ⟨f, hf⟩ := h.2
  rw [vI_wI, if_pos ⟨rfl, rfl, by rw [hf]; rfl⟩]
theorem vI_wI_i (μ : Mem) (a b : Nat) {i i0 : Nat} (h : i ≠ i0) (x : Int32) : vI (wI μ a i0 x) b i = vI μ b i := by
  rw [vI_wI, if_neg (fun z => h z.2.1)]
theorem vI_wI_a (μ : Mem) {a b : Nat} (i i0 : Nat) (h : b ≠ a) (x : Int32) : vI (wI μ a i0 x) b i = vI μ b i := by
  rw [vI_wI, if_neg (fun z => h z.1)]
theorem vR_wR (μ : Mem) (a b i i0 : Nat) (x : Option Nat) : vR (wR μ a i0 x) b i = if b = a ∧ i = i0 ∧ (elR (μ.2 a)).isSome = true then x else vR μ b i := by
  unfold vR wR
  rw [mu_at]
  by_cases hb : b = a
  · subst hb
    rw [if_pos rfl, dR_elR]
    cases he : elR (μ.2 b) with
    | none => simp
    | some q =>
      obtain ⟨t, n, f⟩ := q
      by_cases hi : i = i0
      · subst hi; simp [va_up]
      · simp [va_up, hi]
  · rw [if_neg hb, if_neg (fun z => hb z.1)]
-- the partial reads and writes, where the types fit
theorem tO_c {μ : Mem} {a ci : Nat} (h : tO μ a ci) : ∃ fs, μ.2 a = .inr (ci, fs) := by
  obtain ⟨-, h⟩ := h
  rcases hc : μ.2 a with q | ⟨c, fs⟩
  · rw [hc] at h; cases h
  · rw [hc] at h; cases h; exact ⟨fs, rfl⟩
theorem mfI_t {μ : Mem} {a ci k : Nat} (h : tI μ a ci k) : mfI μ (some a) ci k = some (oI μ a k) := by
  obtain ⟨fs, hc⟩ := tO_c h.1
  have h2 := h.2
  rw [hc] at h2
  obtain ⟨x, hx⟩ := fI_some h2
  have hx : fs[k]? = some (aI x) := hx
  unfold mfI mfV oI
  dsimp only
  rw [if_pos h.1.1, hc]
  dsimp only [fld]
  rw [if_pos rfl, hx]
  rfl
theorem mfR_t {μ : Mem} {a ci k : Nat} (h : tR μ a ci k) : mfR μ (some a) ci k = some (oR μ a k) := by
  obtain ⟨fs, hc⟩ := tO_c h.1
  have h2 := h.2
  rw [hc] at h2
  obtain ⟨x, hx⟩ := fR_some h2
  have hx : fs[k]? = some (aR x) := hx
  unfold mfR mfV oR
  dsimp only
  rw [if_pos h.1.1, hc]
  dsimp only [fld]
  rw [if_pos rfl, hx]
  rfl
theorem mpI_t {μ : Mem} {a ci k : Nat} (h : tI μ a ci k) (x : Int32) : mpI μ (some a) ci k x = some (sI μ a k x) := by
  obtain ⟨fs, hc⟩ := tO_c h.1
  have h2 := h.2
  rw [hc] at h2
  have h2 : (fI fs[k]?).isSome = true := h2
  obtain ⟨y, hy⟩ := fI_some h2
  have hl : k < fs.length := (List.getElem?_eq_some_iff.mp hy).1
  unfold mpI mpV sI mu cI
  dsimp only
  rw [if_pos h.1.1, hc]
  dsimp only
  rw [if_pos ⟨rfl, hl⟩, if_pos h2]
theorem mpR_t {μ : Mem} {a ci k : Nat} (h : tR μ a ci k) (x : Option Nat) : mpR μ (some a) ci k x = some (sR μ a k x) := by
  obtain ⟨fs, hc⟩ := tO_c h.1
  have h2 := h.2
  rw [hc] at h2
  have h2 : (fR fs[k]?).isSome = true := h2
  obtain ⟨y, hy⟩ := fR_some h2
  have hl : k < fs.length := (List.getElem?_eq_some_iff.mp hy).1
  unfold mpR mpV sR mu cR
  dsimp only
  rw [if_pos h.1.1, hc]
  dsimp only
  rw [if_pos ⟨rfl, hl⟩, if_pos h2]
theorem mpZ_t {μ : Mem} {a ci k : Nat} (h : tI μ a ci k) {x : Int32} (hx : x = 0 ∨ x = 1) : mpZ μ (some a) ci k x = some (sI μ a k x) := by
  unfold mpZ
  rw [if_pos hx]
  exact mpI_t h x
theorem mck_t {μ : Mem} {a ci : Nat} (h : tO μ a ci) : mck μ (some a) ci = some a := by
  obtain ⟨fs, hc⟩ := tO_c h
  unfold mck
  dsimp only
  rw [if_pos h.1, hc]
  dsimp only
  rw [if_pos rfl]
theorem tA_c {μ : Mem} {a t n : Nat} (h : tA μ a t n) : ∃ f, μ.2 a = .inl (t, n, .inl f) := by
  obtain ⟨-, f, h⟩ := h
  rcases hc : μ.2 a with ⟨t2, n2, g | g | g⟩ | q
  · rw [hc] at h; cases h; exact ⟨_, rfl⟩
  · rw [hc] at h; cases h
  · rw [hc] at h; cases h
  · rw [hc] at h; cases h
theorem tQ_c {μ : Mem} {a t n : Nat} (h : tQ μ a t n) : ∃ f, μ.2 a = .inl (t, n, .inr (.inr f)) := by
  obtain ⟨-, f, h⟩ := h
  rcases hc : μ.2 a with ⟨t2, n2, g | g | g⟩ | q
  · rw [hc] at h; cases h
  · rw [hc] at h; cases h
  · rw [hc] at h; cases h; exact ⟨_, rfl⟩
  · rw [hc] at h; cases h
theorem maI_t {μ : Mem} {a t n : Nat} (h : tA μ a t n) {i : Int32} {j : Nat} (hi : i = nI j) (hj : j < n) (hn : n < 2 ^ 31) : maI μ t (some a) i = some (vI μ a j) := by
  obtain ⟨f, hc⟩ := tA_c h
  subst hi
  unfold maI maV vI
  dsimp only
  rw [if_pos h.1, hc]
  dsimp only
  rw [if_pos rfl]
  dsimp only [elI]
  rw [if_neg (nI_in hj hn), nI_clamp (by omega)]
theorem mbI_t {μ : Mem} {a t n : Nat} (h : tA μ a t n) {i : Int32} {j : Nat} (hi : i = nI j) (hj : j < n) (hn : n < 2 ^ 31) (x : Int32) : mbI μ t (some a) i x = some (wI μ a j x) := by
  obtain ⟨f, hc⟩ := tA_c h
  subst hi
  unfold mbI maV mbV wI mu dI
  dsimp only
  rw [if_pos h.1, hc]
  dsimp only
  rw [if_pos rfl]
  dsimp only [elI]
  rw [if_neg (nI_in hj hn), nI_clamp (by omega)]
theorem mbZ_t {μ : Mem} {a t n : Nat} (h : tA μ a t n) {i : Int32} {j : Nat} (hi : i = nI j) (hj : j < n) (hn : n < 2 ^ 31) {x : Int32} (hx : x = 0 ∨ x = 1) : mbZ μ t (some a) i x = some (wI μ a j x) := by
  obtain ⟨f, hc⟩ := tA_c h
  subst hi
  unfold mbZ maV mbV wI mu dI
  dsimp only
  rw [if_pos h.1, hc]
  dsimp only
  rw [if_pos rfl]
  dsimp only [elI]
  rw [if_neg (nI_in hj hn), nI_clamp (by omega), if_pos hx]
theorem maR_t {μ : Mem} {a t n : Nat} (h : tQ μ a t n) {i : Int32} {j : Nat} (hi : i = nI j) (hj : j < n) (hn : n < 2 ^ 31) : maR μ t (some a) i = some (vR μ a j) := by
  obtain ⟨f, hc⟩ := tQ_c h
  subst hi
  unfold maR maV vR
  dsimp only
  rw [if_pos h.1, hc]
  dsimp only
  rw [if_pos rfl]
  dsimp only [elR]
  rw [if_neg (nI_in hj hn), nI_clamp (by omega)]
theorem mal_t {μ : Mem} {a t n : Nat} (h : tA μ a t n) (ht : t < 6) : mal μ (some a) = some (nI n) := by
  obtain ⟨f, hc⟩ := tA_c h
  unfold mal
  dsimp only
  rw [if_pos h.1, hc]
  dsimp only
  rw [if_pos ht]
  rfl
theorem malQ_t {μ : Mem} {a t n : Nat} (h : tQ μ a t n) (ht : t < 6) : mal μ (some a) = some (nI n) := by
  obtain ⟨f, hc⟩ := tQ_c h
  unfold mal
  dsimp only
  rw [if_pos h.1, hc]
  dsimp only
  rw [if_pos ht]
  rfl
