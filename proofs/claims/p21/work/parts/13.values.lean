/-! LAYER 0: an abstract memory whose cells have numbers 0 .. n-1 (cell i lies at address B + i), abstract values, and the judgement V = 'the machine, at this pc with these locals, this stack and this memory, comes to the answer that was promised'. A row an instruction, over the kit's rows. Needs: lw_tbl (PART A), vwCl (names). -/
abbrev AV : Type := Int32 ⊕ Int64 ⊕ Option Nat ⊕ Nat
abbrev aI (x : Int32) : AV := Sum.inl x
abbrev aJ (x : Int64) : AV := Sum.inr (Sum.inl x)
abbrev aR (r : Option Nat) : AV := Sum.inr (Sum.inr (Sum.inl r))
abbrev aX (k : Nat) : AV := Sum.inr (Sum.inr (Sum.inr k))
/-- the base of the made cells; the addresses of the cells that were there (constants); the law's script: its length, its ints -/
abbrev BX : Type := Nat × (Nat → Nat) × Nat × (Nat → Int32)
/-- element types of the arrays, by their tags -/
def arrTys : List FieldType := [.int, .long, .boolean, .array .int, .object "ShareEight$User", .object "ShareEight$Slot"]
def av_v (B : BX) (a : AV) : Value := match a with
  | .inl x => .int x
  | .inr (.inl x) => .long x
  | .inr (.inr (.inl r)) => va_rf (r.map (fun i => B.1 + i))
  | .inr (.inr (.inr k)) => .ref (B.2.1 k)
def av_w (a : AV) : Bool := match a with
  | .inl _ => false
  | .inr (.inl _) => true
  | .inr (.inr _) => false
theorem av_cat (B : BX) (a : AV) : ((av_v B a).category == 2) = av_w a := by
  rcases a with x | x | r | k
  · rfl
  · rfl
  · cases r <;> rfl
  · rfl
theorem av_cat1 (B : BX) (a : AV) (h : av_w a = false) : (av_v B a).category = 1 := by
  rcases a with x | x | r | k
  · rfl
  · cases h
  · cases r <;> rfl
  · rfl
/-- arrays of ints (all small kinds too), of longs, of references -/
abbrev AA : Type := (Nat → Int32) ⊕ (Nat → Int64) ⊕ (Nat → Option Nat)
/-- a cell: an array (place of its type in the list of array types, length, contents), or an object (its class's number, its fields) -/
abbrev ACl : Type := (Nat × Nat × AA) ⊕ (Nat × List AV)
abbrev Mem : Type := Nat × (Nat → ACl)
/-- the base, the classes, the array classes -/
abbrev CG : Type := BX × va_G × List (ClassId × FieldType)
def aa_c (B : BX) (a : AA) : (Nat → Int32) ⊕ (Nat → Int64) ⊕ (Nat → UInt32) ⊕ (Nat → UInt64) ⊕ (Nat → Option Nat) := match a with
  | .inl f => .inl f
  | .inr (.inl f) => .inr (.inl f)
  | .inr (.inr f) => .inr (.inr (.inr (.inr (fun j => (f j).map (fun i => B.1 + i)))))
def ac_c (g : CG) (e : ACl) : va_E := match e with
  | .inl a => .inl ((g.2.2.getD a.1 default).1, a.2.1, aa_c g.1 a.2.2)
  | .inr o => .inr (o.1, o.2.map (av_v g.1))
def hw (g : CG) (μ : Mem) : va_W := (List.range μ.1).map (fun i => (g.1.1 + i, ac_c g (μ.2 i)))
theorem hw_at (g : CG) (μ : Mem) {i : Nat} (h : i < μ.1) : (hw g μ)[i]? = some (g.1.1 + i, ac_c g (μ.2 i)) := by
  simp [hw, List.getElem?_map, List.getElem?_range h]
theorem hw_len (g : CG) (μ : Mem) : (hw g μ).length = μ.1 := by simp [hw]
theorem hw_set (g : CG) (μ : Mem) {i : Nat} (e : ACl) : (hw g μ).set i (g.1.1 + i, ac_c g e) = hw g (μ.1, va_up μ.2 i e) := by
  apply List.ext_getElem?
  intro j
  by_cases hj : j < μ.1
  · rw [hw_at g (μ.1, va_up μ.2 i e) hj, List.getElem?_set]
    by_cases hij : i = j
    · subst hij
      simp [hw_len, hj, va_up]
    · rw [if_neg hij, hw_at g μ hj]
      simp [va_up, Ne.symm hij]
  · rw [List.getElem?_eq_none (by rw [List.length_set, hw_len]; omega), List.getElem?_eq_none (by rw [hw_len]; show μ.1 ≤ j; omega)]
theorem hw_D (g : CG) (μ : Mem) : va_D (fun q => g.1.1 ≤ q) (hw g μ) := by
  refine ⟨fun i j p q hi hj h => ?_, fun k q hk => ?_⟩
  · have h1 : i < μ.1 := by rw [← hw_len g μ]; exact (List.getElem?_eq_some_iff.mp hi).1
    have h2 : j < μ.1 := by rw [← hw_len g μ]; exact (List.getElem?_eq_some_iff.mp hj).1
    rw [hw_at g μ h1] at hi
    rw [hw_at g μ h2] at hj
    cases hi; cases hj
    have : g.1.1 + i = g.1.1 + j := h
    omega
  · have h1 : k < μ.1 := by rw [← hw_len g μ]; exact (List.getElem?_eq_some_iff.mp hk).1
    rw [hw_at g μ h1] at hk
    cases hk
    exact Nat.le_add_right _ _
abbrev Hold (g : CG) (μ : Mem) (H : Heap) : Prop := va_P g.2.1 vwCl (hw g μ) H
-- locals
abbrev LV : Type := List (Nat × AV)
def lvm (B : BX) (lv : LV) : List (Nat × Value) := lv.map (fun q => (q.1, av_v B q.2))
def lvg (lv : LV) (i : Nat) : Option AV := match lv with
  | [] => none
  | q :: t => if q.1 = i then some q.2 else lvg t i
def lvs (lv : LV) (i : Nat) (v : AV) : LV := (i, v) :: lv.filter (fun q => !(q.1 == i) && !(q.1 + 1 == i && av_w q.2))
def lvs2 (lv : LV) (i : Nat) (v : AV) : LV := (i, v) :: lv.filter (fun q => !(q.1 == i) && (!(q.1 == i + 1) && !(q.1 + 1 == i && av_w q.2)))
def lvle (a : LV) (b : LV) : Prop := match a with
  | [] => True
  | q :: t => lvg b q.1 = some q.2 ∧ lvle t b
theorem lvg_mem {lv : LV} {i : Nat} {v : AV} (h : lvg lv i = some v) : (i, v) ∈ lv := by
  induction lv with
  | nil => cases h
  | cons q t ih =>
    unfold lvg at h
    by_cases hq : q.1 = i
    · rw [if_pos hq] at h
      cases h
      rw [← hq]
      exact List.mem_cons_self
    · rw [if_neg hq] at h
      exact List.mem_cons_of_mem _ (ih h)
theorem lvg_at {B : BX} {ls : Array Slot} {nL : Nat} {lv : LV} (h : lv_has ls nL (lvm B lv)) {i : Nat} {v : AV} (hv : lvg lv i = some v) : ls[i]? = some (.val (av_v B v)) :=
  h.2.2 (i, av_v B v) (List.mem_map.mpr ⟨(i, v), lvg_mem hv, rfl⟩)
theorem lvm_le {B : BX} {ls : Array Slot} {nL : Nat} {a b : LV} (h : lv_has ls nL (lvm B b)) (hl : lvle a b) : lv_has ls nL (lvm B a) := by
  refine ⟨h.1, h.2.1, fun q hq => ?_⟩
  obtain ⟨p, hp, rfl⟩ := List.mem_map.mp hq
  have : lvg b p.1 = some p.2 := by
    clear hq
    induction a with
    | nil => cases hp
    | cons c t ih =>
      rcases List.mem_cons.mp hp with rfl | hp
      · exact hl.1
      · exact ih hl.2 hp
  exact lvg_at h this
theorem lvm_s (B : BX) (lv : LV) (i : Nat) (v : AV) : (i, av_v B v) :: (lvm B lv).filter (fun q => !(q.1 == i) && !(q.1 + 1 == i && q.2.category == 2)) = lvm B (lvs lv i v) := by
  simp [lvm, lvs, List.filter_map, Function.comp_def, av_cat]
theorem lvm_s2 (B : BX) (lv : LV) (i : Nat) (v : AV) : (i, av_v B v) :: (lvm B lv).filter (fun q => !(q.1 == i) && (!(q.1 == i + 1) && !(q.1 + 1 == i && q.2.category == 2))) = lvm B (lvs2 lv i v) := by
  simp [lvm, lvs2, List.filter_map, Function.comp_def, av_cat]
