/-! LAYER 0, new int[n][m] (after the block of the printed names) -/
theorem vr_outer (c : ClassId) (N h0 : Nat) : ∀ i : Nat, Jvm.Free.Multi.outerC c N h0 i = arrV c N (fun j => va_rf (if j < i then some (h0 + 1 + j) else none))
  | 0 => by
    show ({ cls := c, slots := Array.replicate N .null, vm := .none } : Cell) = _
    rw [arrV_new]
    refine congrArg (arrV c N) (funext fun j => ?_)
    simp [va_rf]
  | i + 1 => by
    show (Jvm.Free.Multi.outerC c N h0 i).setSlot i (.ref (h0 + 1 + i)) = _
    rw [vr_outer c N h0 i, arrV_store]
    refine congrArg (arrV c N) (funext fun j => ?_)
    by_cases e : j = i
    · subst e
      simp [updV, va_rf]
    · by_cases h : j < i
      · simp [updV, e, h, Nat.lt_succ_of_lt h]
      · simp [updV, e, h, show ¬ j < i + 1 by omega]
def mmna (μ : Mem) (N K : Nat) : Mem := (μ.1 + 1 + N, fun a => if a = μ.1 then .inl (3, N, .inr (.inr (fun i => if i < N then some (μ.1 + 1 + i) else none))) else if μ.1 < a ∧ a ≤ μ.1 + N then .inl (0, K, .inl (fun _ => 0)) else μ.2 a)
theorem v_mna {x : CX} {l : Launch} {g : CG} {M : MI} {nL k n idx N K : Nat} {μ : Mem} {pc : Nat} {lv : LV} {st : List AV} {i j : Int32} (C : Cx x l g M) (d : decode M.1 pc = .ok (.multianewarray idx 2, 4)) (hw3 : Cond.classLink M.2.2.1 idx "[[I" ∈ lw_ok ∧ Cond.arrayOver (.array .int) ∈ lw_ns ∧ Cond.arrayClass .int ∈ lw_ok) (hi : ¬ i < 0 ∧ i.toNatClampNeg = N) (hj : ¬ j < 0 ∧ j.toNatClampNeg = K) (hb : N ≤ 1000 ∧ K ≤ 5000) (hR : k + (1 + N) ≤ M.2.2.2.2.2.cells ∧ n + (N + N * K) ≤ M.2.2.2.2.2.slots) (kk : V x g nL (k + (1 + N)) (n + (N + N * K)) (mmna μ N K) (pc + 4) lv (aR (some μ.1) :: st)) : V x g nL k n μ pc lv (aI j :: aI i :: st) := by
  refine v_sz C fun H locs ls h0 hsz h1 h2 h3 => ?_
  obtain ⟨p, l0, e0, R, s, m, args, below, meth, c, Q⟩ := x
  have hRR : R = M.2.2.2.2.2 := C.2.2.2.2.2.2.2.2.2.1
  have h00 : s.heap.size + k = g.1.1 + μ.1 := h0
  have hB : g.1.1 ≤ s.heap.size := C.2.2.2.2.2.2.2.1
  obtain ⟨hi0, rfl⟩ := hi
  obtain ⟨hj0, rfl⟩ := hj
  intro T hT Xs
  obtain ⟨vm₁, cA, comp, -, fA, fC, hO, -, X', step⟩ := Xs.multianewarray2F (ty := .int) C.1 C.2.2.2.1 (C.2.2.2.2.1 _ hw3.1) (Cns C _ hw3.2.1) (C.2.2.2.2.1 _ hw3.2.2) (g := F0 m pc ls (.int j :: .int i :: st.map (av_v g.1))) rfl (by rw [C.2.1]; exact d) rfl hi0 hj0 (by omega) (by show j.toNatClampNeg * 4 ≤ _; omega) (by omega) rfl rfl (by rw [hRR]; exact hR.1) (by rw [hRR]; exact hR.2)
  have hty3 := tyat (Cty C) (t := 3) (ty := .array .int) rfl
  have hty0 := tyat (Cty C) (t := 0) (ty := .int) rfl
  have c3 : cA = (g.2.2.getD 3 default).1 := Option.some.inj (fA.symm.trans (C.2.2.2.2.2.1.2 3 _ hty3).2)
  have c0 : comp = (g.2.2.getD 0 default).1 := Option.some.inj (fC.symm.trans (C.2.2.2.2.2.1.2 0 _ hty0).2)
  generalize hF : Jvm.Free.Multi.fill (T.setVm vm₁) cA comp i.toNatClampNeg j.toNatClampNeg (defaultValue .int) i.toNatClampNeg = F at X' step
  have hTh : (T.setVm vm₁).heap = H := hT
  obtain ⟨f1, f2, -, -⟩ := Jvm.Free.Multi.fill_facts (T.setVm vm₁) cA comp i.toNatClampNeg j.toNatClampNeg (defaultValue .int) i.toNatClampNeg
  rw [hF, hTh] at f1 f2
  have hold : ∀ y : Nat, y < H.size → F.heap[y]? = H[y]? := fun y hy => by
    have := Jvm.Free.Multi.fill_old (T.setVm vm₁) cA comp i.toNatClampNeg j.toNatClampNeg (defaultValue .int) (a := y) (by rw [hTh]; exact hy) i.toNatClampNeg
    rw [hF, hTh] at this
    exact this
  have hrow : ∀ q : Nat, q < i.toNatClampNeg → F.heap[H.size + 1 + q]? = some (vp_cell comp (j.toNatClampNeg, .inl (fun _ => 0))) := fun q hq => by
    have := Jvm.Free.Multi.fill_inner (T.setVm vm₁) cA comp i.toNatClampNeg j.toNatClampNeg (defaultValue .int) i.toNatClampNeg q hq
    rw [hF, hTh] at this
    rw [this]
    exact congrArg some (arrV_new comp j.toNatClampNeg (.int 0))
  have hout : Jvm.Free.Multi.outerC cA i.toNatClampNeg H.size i.toNatClampNeg = vp_cell cA (i.toNatClampNeg, .inr (.inr (.inr (.inr (fun q => if q < i.toNatClampNeg then some (H.size + 1 + q) else none))))) := by
    rw [vp_cell_q]
    exact vr_outer cA i.toNatClampNeg H.size i.toNatClampNeg
  rw [hout] at f2
  have hnew : Hold g (mmna μ i.toNatClampNeg j.toNatClampNeg) F.heap := by
    intro q y hy
    have hq : q < (mmna μ i.toNatClampNeg j.toNatClampNeg).1 := by rw [← hw_len g]; exact (List.getElem?_eq_some_iff.mp hy).1
    rw [hw_at g _ hq] at hy
    cases hy
    have hq2 : q < μ.1 + 1 + i.toNatClampNeg := hq
    by_cases q1 : q = μ.1
    · subst q1
      show va_at _ _ (g.1.1 + μ.1, ac_c g (if μ.1 = μ.1 then _ else _)) _
      rw [if_pos rfl]
      show F.heap[g.1.1 + μ.1]? = some (vp_cell (g.2.2.getD 3 default).1 (i.toNatClampNeg, .inr (.inr (.inr (.inr (fun q => (if q < i.toNatClampNeg then some (μ.1 + 1 + q) else none).map (fun z => g.1.1 + z)))))))
      rw [← hsz, f2, c3]
      congr 7
      funext q
      by_cases hh : q < i.toNatClampNeg
      · rw [if_pos hh, if_pos hh]; show some _ = some (g.1.1 + (μ.1 + 1 + q)); congr 1; omega
      · rw [if_neg hh, if_neg hh]; rfl
    · by_cases q3 : q < μ.1
      · have e1 : (mmna μ i.toNatClampNeg j.toNatClampNeg).2 q = μ.2 q := by
          show (if q = μ.1 then _ else if μ.1 < q ∧ q ≤ μ.1 + i.toNatClampNeg then _ else μ.2 q) = _
          rw [if_neg q1, if_neg (by omega)]
        rw [e1]
        have h5 := h1 q _ (hw_at g μ q3)
        exact h5.kept (hold _ (by omega))
      · have e1 : (mmna μ i.toNatClampNeg j.toNatClampNeg).2 q = .inl (0, j.toNatClampNeg, .inl (fun _ => 0)) := by
          show (if q = μ.1 then _ else if μ.1 < q ∧ q ≤ μ.1 + i.toNatClampNeg then _ else μ.2 q) = _
          rw [if_neg q1, if_pos (by omega)]
        rw [e1]
        have h5 := hrow (q - μ.1 - 1) (by omega)
        rw [show H.size + 1 + (q - μ.1 - 1) = g.1.1 + q by omega, c0] at h5
        exact h5
  have hS : va_S (fun q => g.1.1 ≤ q) s.heap F.heap locs := ⟨by rw [f1]; have := h2.1; have e9 : s.heap.size ≤ H.size := this; omega, fun y a b => (hold y (Nat.lt_of_lt_of_le a h2.1)).trans (h2.2.1 y a b), h2.2.2⟩
  rw [Nat.add_assoc k, Nat.add_assoc n] at X'
  obtain ⟨t, a1, b1⟩ := kk (by show s.heap.size + (k + (1 + i.toNatClampNeg)) = g.1.1 + (μ.1 + 1 + i.toNatClampNeg); omega) F.heap locs ls hnew hS h3 F rfl X'
  refine ⟨t, step t ?_, b1⟩
  have e : T.heap.size = H.size := by rw [hT]
  rw [e, hsz]
  exact a1
