/-! LAYER 0, calls -/
def CfB (own : String) (idx : Nat) (y : MethodName) (M : MI) (n : Nat) : Prop := Cond.code y M.1 M.2.1 M.2.2.2.2.1 ∈ lw_ok ∧ Cond.initialized y.cls ∈ lw_ok ∧ (Cond.methodLink own idx y ∈ lw_ok ∨ ∃ host, Cond.methodLinkNest own idx y host ∈ lw_ns) ∧ y.cls ≠ "java/lang/invoke/MethodHandle" ∧ y.cls ≠ "java/lang/invoke/VarHandle" ∧ (parseMethodDescriptor y.desc).map (fun d => d.parameters.length) = some n
def CfV (own : String) (idx ci : Nat) (y : MethodName) (M : MI) (n : Nat) : Prop := CfB own idx y M n ∧ Cond.instanceMethod y ∈ lw_ok ∧ Cond.selects y.cls y y ∈ lw_ok ∧ ∃ T N, vwCl[ci]? = some (y.cls, T, N)
def CfS (own : String) (idx : Nat) (y : MethodName) (M : MI) (n : Nat) : Prop := CfB own idx y M n ∧ Cond.static y ∈ lw_ok
def CfI (own : String) (idx : Nat) (y : MethodName) (M : MI) (n : Nat) : Prop := CfB own idx y M n ∧ y.name = "<init>" ∧ Cond.instanceMethod y ∈ lw_ok
/-- room: the callee's fits the caller's -/
def Rm (M M' : MI) (k n : Nat) : Prop := (M'.2.2.2.2.2.frames + 1 ≤ M.2.2.2.2.2.frames ∧ 8 + (M'.2.1 + 11) + M'.2.2.2.2.2.locals ≤ M.2.2.2.2.2.locals) ∧ k + M'.2.2.2.2.2.cells ≤ M.2.2.2.2.2.cells ∧ n + M'.2.2.2.2.2.slots ≤ M.2.2.2.2.2.slots
theorem ws_good {y : MethodName} {M : MI} (h : Cond.code y M.1 M.2.1 M.2.2.2.2.1 ∈ lw_ok) : GoodIn lw_ok (.code y M.1 M.2.1 M.2.2.2.2.1 :: lw_ok) := by
  intro w hw
  rcases List.mem_cons.mp hw with rfl | hw
  · exact ok_good _ h
  · exact ok_good _ hw
theorem hold_size {g : CG} {μ : Mem} {H : Heap} (hB : g.1.1 ≤ H.size) (h : Hold g μ H) : g.1.1 + μ.1 ≤ H.size := by
  cases hn : μ.1 with
  | zero => exact hB
  | succ a =>
    have ha : a < μ.1 := by omega
    have h1 := h a _ (hw_at g μ ha)
    have : g.1.1 + a < H.size := by
      unfold va_at at h1
      dsimp only at h1
      split at h1
      · exact (Array.getElem?_eq_some_iff.mp h1).1
      · obtain ⟨r, -, cell, hc, -⟩ := h1
        exact (Array.getElem?_eq_some_iff.mp hc).1
    omega
theorem ctP_pre {x : CX} {l : Launch} {g : CG} {M : MI} {μ : Mem} {av : List AV} {H : Heap} {locs : List Loc} (C : Cx x l g M) (hz : H.size = g.1.1 + μ.1) (h1 : Hold g μ H) (h2 : va_S (fun q => g.1.1 ≤ q) (xs x).heap H locs) : PreS (xs x) H (CtP g av μ) (av.map (av_v g.1)) := by
  refine ⟨fun a U f mk q => ?_, fun U hU hW => ?_⟩
  · obtain ⟨q0, q1, q2, q3, q4, q5, q6⟩ := q
    exact ⟨q0, q1, q2, va_K.moved (u := U) (U := U.calling f mk a) (Vm.Alike.refl U.vm) q3, q4, ext_blind q5 f mk a, ns_same f mk a q6⟩
  · exact ⟨rfl, by rw [hU]; exact hz, by rw [hU]; exact h1, va_K.moved hW.alike C.2.2.2.2.2.1, Cty C, ext_warm (Cex C) hW (fun q a b => by rw [hU]; exact h2.2.1 q a b), ns_warm hW (Cns C)⟩
/-- the heap's size is known from the room that was used -/
theorem w_size {p : Program} {l : Launch} {e : Env} {R : Room} {s : State} {m : MethodId} {args : Array Value} {below : List Frame} {meth : Method} {c : Code} {H : Heap} {locs : List Loc} {k n : Nat} {Q : State → Prop} {f : JFrame} (kk : H.size ≤ s.heap.size + k → W p l e R s m args below meth c H locs k n Q f) : W p l e R s m args below meth c H locs k n Q f := fun T hT X => kk (by rw [← hT]; exact X.heapSize) T hT X
theorem v_back {x : CX} {l : Launch} {g : CG} {M M' : MI} {nL k n : Nat} {μ μ' : Mem} {pc : Nat} {lv : LV} {st : List AV} {r : Option AV} {H : Heap} {locs : List Loc} {ls : Array Slot} {st0 : List Value} {a : Array Value} (C : Cx x l g M) (h0 : (xs x).heap.size + k = g.1.1 + μ.1) (hz : H.size = g.1.1 + μ.1) (h2 : va_S (fun q => g.1.1 ≤ q) (xs x).heap H locs) (h3 : lv_has ls nL (lvm g.1 lv))
    (hr : va_Run x.1 x.2.1 x.2.2.1 x.2.2.2.1 (xs x) (xm x) (xa x) (xb x) (xM x) (xc x) H locs k n M'.2.2.2.2.2.cells M'.2.2.2.2.2.slots (F0 (xm x) pc ls st0) (st.map (av_v g.1)) (CtQ g M' μ r μ' a) (fun q => g.1.1 ≤ q))
    (kk : V x g nL (k + M'.2.2.2.2.2.cells) (n + M'.2.2.2.2.2.slots) μ' (pc + 3) lv (r.toList ++ st)) : WX x H locs k n (F0 (xm x) pc ls st0) := by
  obtain ⟨p, l0, e, R, s, m, args, below, meth, c, Q⟩ := x
  intro T hT X
  obtain ⟨v, st₀, t, T', L, h5, X', hL, e1, e2, ⟨hv, hc, hb, hz2, hk2⟩, stp⟩ := hr T hT X
  cases hv
  rw [h5] at hz2 hk2
  have hS : va_S (fun q => g.1.1 ≤ q) s.heap T'.heap (locs ++ L) := ⟨Nat.le_trans h2.1 (by rw [e1]; exact hz2), fun q a b => by rw [e1, hk2 q (Nat.lt_of_lt_of_le a h2.1) b]; exact h2.2.1 q a b, fun q hq => by
      rcases List.mem_append.mp hq with h | h
      · exact h2.2.2 q h
      · exact hL q h⟩
  obtain ⟨t2, a1, b1⟩ := kk (by show s.heap.size + (k + _) = _; rw [hc]; have : s.heap.size + k = g.1.1 + μ.1 := h0; omega) T'.heap (locs ++ L) ls (by rw [e1]; exact hb) hS h3 T' rfl X'
  refine ⟨t2, stp t2 ?_, b1⟩
  have he : (r.toList ++ st).map (av_v g.1) = (r.map (av_v g.1)).toList ++ st.map (av_v g.1) := by cases r <;> rfl
  rw [he] at a1
  exact a1
theorem v_sz {x : CX} {l : Launch} {g : CG} {M : MI} {nL k n : Nat} {μ : Mem} {pc : Nat} {lv : LV} {st : List AV} (C : Cx x l g M) (kk : ∀ (H : Heap) (locs : List Loc) (ls : Array Slot), (xs x).heap.size + k = g.1.1 + μ.1 → H.size = g.1.1 + μ.1 → Hold g μ H → va_S (fun q => g.1.1 ≤ q) (xs x).heap H locs → lv_has ls nL (lvm g.1 lv) → WX x H locs k n (F0 (xm x) pc ls (st.map (av_v g.1)))) : V x g nL k n μ pc lv st := by
  intro h0 H locs ls h1 h2 h3
  obtain ⟨p, l0, e, R, s, m, args, below, meth, c, Q⟩ := x
  refine w_size fun hz => ?_
  refine kk H locs ls h0 ?_ h1 h2 h3
  have a1 : g.1.1 ≤ H.size := Nat.le_trans C.2.2.2.2.2.2.2.1 h2.1
  have a2 := hold_size a1 h1
  have a3 : s.heap.size + k = g.1.1 + μ.1 := h0
  omega
theorem v_callV {x : CX} {l : Launch} {g : CG} {M M' : MI} {nL k n idx ci nn b' : Nat} {μ μ' : Mem} {pc : Nat} {lv : LV} {st stk As : List AV} {y : MethodName} {b : Option Nat} {r : Option AV} (C : Cx x l g M) (d : decode M.1 pc = .ok (.invokevirtual idx, 3)) (cf : CfV M.2.2.1 idx ci y M' nn) (hR : Rm M M' k n) (hL : M.2.1 = nL ∧ As.length = nn) (e0 : mck μ b ci = some b') (hst : stk = As.reverse ++ aR b :: st) (hw8 : stw g.1 st ≤ 8) (hc : Ct l y M' g (aR (some b') :: As) μ r μ') (kk : V x g nL (k + M'.2.2.2.2.2.cells) (n + M'.2.2.2.2.2.slots) μ' (pc + 3) lv (r.toList ++ st)) : V x g nL k n μ pc lv stk := by
  refine v_sz C fun H locs ls h0 hz h1 h2 h3 => ?_
  obtain ⟨fs, rfl, hb, hcell⟩ := mck_spec e0
  have pre := ctP_pre (av := aR (some b') :: As) C hz h1 h2
  have hat : (hw g μ)[b']? = some (g.1.1 + b', .inr (ci, fs.map (av_v g.1))) := by rw [hw_at g μ hb, hcell]; rfl
  refine v_back C h0 hz h2 h3 (a := ((aR (some b') :: As).map (av_v g.1)).toArray) ?_ kk
  obtain ⟨p, l0, e, R, s, m, args, below, meth, c, Q⟩ := x
  obtain ⟨⟨c1, c2, c3, c4, c5, c6⟩, c7, c8, T, N, c9⟩ := cf
  obtain ⟨hR1, hR2⟩ := hR
  have hRR : R = M.2.2.2.2.2 := C.2.2.2.2.2.2.2.2.2.1
  have hll : l0 = l := C.2.2.2.2.2.2.2.2.1
  subst hll
  have hstack : (F0 m pc ls (stk.map (av_v g.1))).stack = (As.map (av_v g.1)).reverse ++ .ref (g.1.1 + b') :: st.map (av_v g.1) := by
    subst hst
    show (As.reverse ++ aR (some b') :: st).map (av_v g.1) = _
    rw [List.map_append, List.map_reverse]
    rfl
  have hpv : PreV s H y.cls (g.1.1 + b') (CtP g (aR (some b') :: As) μ) (As.map (av_v g.1)) := ⟨pre.1, va_recv C.2.2.2.2.2.1 h1 c9 hat, pre.2⟩
  have fix : CallFix p m c M.1 M.2.1 s args lw_ok M.2.2.1 := ⟨C.1, C.2.1, C.2.2.1, C.2.2.2.1, C.2.2.2.2.1⟩
  have hsz : (F0 m pc ls (stk.map (av_v g.1))).locals.size = M.2.1 := by rw [hL.1]; exact h3.1
  have hlen : (As.map (av_v g.1)).length = nn := by rw [List.length_map]; exact hL.2
  have hw0 : 2 * (F0 m pc ls (stk.map (av_v g.1))).monitorRoom + ((st.map (av_v g.1)).map fun v => v.category).sum ≤ 8 := by show 2 * 0 + _ ≤ 8; rw [Nat.mul_zero, Nat.zero_add, stw_eq]; exact hw8
  rcases c3 with c3 | ⟨host, c3⟩
  · exact va_runV fix hc ⟨callB_of nn C.2.2.2.2.1 (ws_good c1) rfl rfl rfl (C.2.2.2.2.1 _ c2) (C.2.2.2.2.1 _ c3) ⟨c4, c5, c6⟩ (by rw [hRR]; exact hR1), C.2.2.2.2.1 _ c7, C.2.2.2.2.1 _ c8⟩ hpv rfl hlen hsz hstack hw0 d (by rw [hRR]; exact hR2)
  · exact va_runVN fix hc ⟨va_cnB nn C.2.2.2.2.1 (ws_good c1) rfl rfl rfl (Cns C _ c3) (C.2.2.2.2.1 _ c2) ⟨c4, c5, c6⟩ (by rw [hRR]; exact hR1), C.2.2.2.2.1 _ c7, C.2.2.2.2.1 _ c8⟩ hpv rfl hlen hsz hstack hw0 d (by rw [hRR]; exact hR2)
theorem v_callS {x : CX} {l : Launch} {g : CG} {M M' : MI} {nL k n idx nn : Nat} {μ μ' : Mem} {pc : Nat} {lv : LV} {st stk As : List AV} {y : MethodName} {r : Option AV} (C : Cx x l g M) (d : decode M.1 pc = .ok (.invokestatic idx, 3)) (cf : CfS M.2.2.1 idx y M' nn) (hR : Rm M M' k n) (hL : M.2.1 = nL ∧ As.length = nn) (hst : stk = As.reverse ++ st) (hw8 : stw g.1 st ≤ 8) (hc : Ct l y M' g As μ r μ') (kk : V x g nL (k + M'.2.2.2.2.2.cells) (n + M'.2.2.2.2.2.slots) μ' (pc + 3) lv (r.toList ++ st)) : V x g nL k n μ pc lv stk := by
  refine v_sz C fun H locs ls h0 hz h1 h2 h3 => ?_
  have pre := ctP_pre (av := As) C hz h1 h2
  refine v_back C h0 hz h2 h3 (a := (As.map (av_v g.1)).toArray) ?_ kk
  obtain ⟨p, l0, e, R, s, m, args, below, meth, c, Q⟩ := x
  obtain ⟨⟨c1, c2, c3, c4, c5, c6⟩, c7⟩ := cf
  obtain ⟨hR1, hR2⟩ := hR
  have hRR : R = M.2.2.2.2.2 := C.2.2.2.2.2.2.2.2.2.1
  have hll : l0 = l := C.2.2.2.2.2.2.2.2.1
  subst hll
  have hstack : (F0 m pc ls (stk.map (av_v g.1))).stack = (As.map (av_v g.1)).reverse ++ st.map (av_v g.1) := by
    subst hst
    show (As.reverse ++ st).map (av_v g.1) = _
    rw [List.map_append, List.map_reverse]
  have fix : CallFix p m c M.1 M.2.1 s args lw_ok M.2.2.1 := ⟨C.1, C.2.1, C.2.2.1, C.2.2.2.1, C.2.2.2.2.1⟩
  have hsz : (F0 m pc ls (stk.map (av_v g.1))).locals.size = M.2.1 := by rw [hL.1]; exact h3.1
  have hlen : (As.map (av_v g.1)).length = nn := by rw [List.length_map]; exact hL.2
  have hw0 : 2 * (F0 m pc ls (stk.map (av_v g.1))).monitorRoom + ((st.map (av_v g.1)).map fun v => v.category).sum ≤ 8 := by show 2 * 0 + _ ≤ 8; rw [Nat.mul_zero, Nat.zero_add, stw_eq]; exact hw8
  rcases c3 with c3 | ⟨host, c3⟩
  · exact va_runS fix hc ⟨callB_of nn C.2.2.2.2.1 (ws_good c1) rfl rfl rfl (C.2.2.2.2.1 _ c2) (C.2.2.2.2.1 _ c3) ⟨c4, c5, c6⟩ (by rw [hRR]; exact hR1), C.2.2.2.2.1 _ c7⟩ pre rfl hlen hsz hstack hw0 d (by rw [hRR]; exact hR2)
  · exact va_runSN fix hc ⟨va_cnB nn C.2.2.2.2.1 (ws_good c1) rfl rfl rfl (Cns C _ c3) (C.2.2.2.2.1 _ c2) ⟨c4, c5, c6⟩ (by rw [hRR]; exact hR1), C.2.2.2.2.1 _ c7, trivial⟩ pre rfl hlen hsz hstack hw0 d (by rw [hRR]; exact hR2)
theorem v_callI {x : CX} {l : Launch} {g : CG} {M M' : MI} {nL k n idx nn b' : Nat} {μ μ' : Mem} {pc : Nat} {lv : LV} {st stk As : List AV} {y : MethodName} (C : Cx x l g M) (d : decode M.1 pc = .ok (.invokespecial idx, 3)) (cf : CfI M.2.2.1 idx y M' nn) (hret : M'.2.2.2.2.1 = none) (hR : Rm M M' k n) (hL : M.2.1 = nL ∧ As.length = nn) (hst : stk = As.reverse ++ aR (some b') :: st) (hw8 : stw g.1 st ≤ 8) (hc : Ct l y M' g (aR (some b') :: As) μ none μ') (kk : V x g nL (k + M'.2.2.2.2.2.cells) (n + M'.2.2.2.2.2.slots) μ' (pc + 3) lv st) : V x g nL k n μ pc lv stk := by
  refine v_sz C fun H locs ls h0 hz h1 h2 h3 => ?_
  have pre := ctP_pre (av := aR (some b') :: As) C hz h1 h2
  refine v_back C h0 hz h2 h3 (r := none) (a := ((aR (some b') :: As).map (av_v g.1)).toArray) ?_ kk
  obtain ⟨p, l0, e, R, s, m, args, below, meth, c, Q⟩ := x
  obtain ⟨⟨c1, c2, c3, c4, c5, c6⟩, c7, c8⟩ := cf
  obtain ⟨hR1, hR2⟩ := hR
  have hRR : R = M.2.2.2.2.2 := C.2.2.2.2.2.2.2.2.2.1
  have hll : l0 = l := C.2.2.2.2.2.2.2.2.1
  subst hll
  have hstack : (F0 m pc ls (stk.map (av_v g.1))).stack = (As.map (av_v g.1)).reverse ++ .ref (g.1.1 + b') :: st.map (av_v g.1) := by
    subst hst
    show (As.reverse ++ aR (some b') :: st).map (av_v g.1) = _
    rw [List.map_append, List.map_reverse]
    rfl
  have fix : CallFix p m c M.1 M.2.1 s args lw_ok M.2.2.1 := ⟨C.1, C.2.1, C.2.2.1, C.2.2.2.1, C.2.2.2.2.1⟩
  have hsz : (F0 m pc ls (stk.map (av_v g.1))).locals.size = M.2.1 := by rw [hL.1]; exact h3.1
  have hlen : (As.map (av_v g.1)).length = nn := by rw [List.length_map]; exact hL.2
  have hw0 : 2 * (F0 m pc ls (stk.map (av_v g.1))).monitorRoom + ((st.map (av_v g.1)).map fun v => v.category).sum ≤ 8 := by show 2 * 0 + _ ≤ 8; rw [Nat.mul_zero, Nat.zero_add, stw_eq]; exact hw8
  have c1' : Cond.code y M'.1 M'.2.1 none ∈ lw_ok := by rw [← hret]; exact c1
  rcases c3 with c3 | ⟨host, c3⟩
  · exact va_runI (bytes := M'.1) (maxL := M'.2.1) fix hc ⟨callB_of nn C.2.2.2.2.1 (ws_good c1) (by rw [hret]) rfl rfl (C.2.2.2.2.1 _ c2) (C.2.2.2.2.1 _ c3) ⟨c4, c5, c6⟩ (by rw [hRR]; exact hR1), c7, C.2.2.2.2.1 _ c8⟩ pre rfl hlen hsz hstack hw0 d (by rw [hRR]; exact hR2)
  · exact va_runIN (bytes := M'.1) (maxL := M'.2.1) fix hc ⟨va_cnB nn C.2.2.2.2.1 (ws_good c1) (by rw [hret]) rfl rfl (Cns C _ c3) (C.2.2.2.2.1 _ c2) ⟨c4, c5, c6⟩ (by rw [hRR]; exact hR1), c7, C.2.2.2.2.1 _ c8⟩ pre rfl hlen hsz hstack hw0 d (by rw [hRR]; exact hR2)
