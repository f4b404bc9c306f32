/-! THE LAW'S ENTRY, second half -/
theorem arr_cls {s : State} {args : Array Value} {ty : FieldType} (h : (Cond.arrayClass ty).before args s = true) (hno : ∀ C, ty ≠ .object C) : ∃ c : ClassId, ArrOfT s c ty ∧ va_RA s c ty := by
  obtain ⟨c, k, comp, h1, h2, h3⟩ := Cond.arrayClass_spec h
  refine ⟨c, fun n z => ⟨fun q h => (by cases h), k, h2, comp, h3⟩, ?_⟩
  cases ty <;> first | exact h1 | exact absurd rfl (hno _)
theorem arr_obj {s : State} {args : Array Value} {C : String} (h : (Cond.arrayOver (.object C)).before args s = true) : ∃ c : ClassId, ArrOfT s c (.object C) ∧ va_RA s c (.object C) := by
  obtain ⟨comp, c, k, h1, h2, h3, h4, h5⟩ := Cond.arrayOver_spec h
  exact ⟨c, fun n z => ⟨fun q h => (by cases h), k, h3, comp, h4⟩, k, comp, h3, h4, h1, h5⟩
theorem arr_arr {s : State} {args : Array Value} {t : FieldType} (h : (Cond.arrayOver (.array t)).before args s = true) : ∃ c : ClassId, ArrOfT s c (.array t) ∧ va_RA s c (.array t) := by
  obtain ⟨comp, c, k, h1, h2, h3, h4⟩ := Cond.arrayOver_specA h
  exact ⟨c, fun n z => ⟨fun q h => (by cases h), k, h2, comp, h3⟩, h4⟩
theorem kn_start {s : State} {args : Array Value} (hts : ∀ w ∈ lw_tbl, w.before args s = true) : ∃ (D : va_G) (tys : List (ClassId × FieldType)), va_K D vwCl tys s ∧ tys.map (fun q => q.2) = arrTys := by
  have hok : ∀ w ∈ lw_ok, w.before args s = true := fun w h => hts w (List.mem_filter.mp h).1
  obtain ⟨c0, i0, k0⟩ := u_known (C := RX0) (T := TX0) (N := 11) (n := 11) hok inX0 (hok _ (ok1 31 (by decide +kernel) rfl))
  obtain ⟨c1, i1, k1⟩ := u_known (C := RX1) (T := TX1) (N := 8) (n := 8) hok inX1 (hok _ (ok1 226 (by decide +kernel) rfl))
  obtain ⟨c2, i2, k2⟩ := u_known (C := RX2) (T := TX2) (N := 12) (n := 12) hok inX2 (hok _ (ok1 211 (by decide +kernel) rfl))
  obtain ⟨c3, i3, k3⟩ := u_known (C := RX3) (T := TX3) (N := 2) (n := 2) hok inX3 (hok _ (ok2 24 (by decide +kernel) rfl))
  obtain ⟨c4, i4, k4⟩ := u_known (C := RX4) (T := TX4) (N := 5) (n := 5) hok inX4 (hok _ (ok1 37 (by decide +kernel) rfl))
  obtain ⟨c5, i5, k5⟩ := u_known (C := RX5) (T := TX5) (N := 2) (n := 2) hok inX5 (hok _ (ok2 193 (by decide +kernel) rfl))
  obtain ⟨c6, i6, k6⟩ := u_known (C := RX6) (T := TX6) (N := 3) (n := 3) hok inX6 (hok _ (ok2 45 (by decide +kernel) rfl))
  obtain ⟨c7, i7, k7⟩ := u_known (C := RX7) (T := TX7) (N := 2) (n := 2) hok inX7 (hok _ (ok1 157 (by decide +kernel) rfl))
  obtain ⟨c8, i8, k8⟩ := u_known (C := RX8) (T := TX8) (N := 5) (n := 5) hok inX8 (hok _ (ok2 162 (by decide +kernel) rfl))
  obtain ⟨c9, i9, k9⟩ := u_known (C := RX9) (T := TX9) (N := 9) (n := 9) hok inX9 (hok _ (ok1 117 (by decide +kernel) rfl))
  obtain ⟨c10, i10, k10⟩ := u_known (C := RX10) (T := TX10) (N := 20) (n := 20) hok inX10 (hok _ (ok2 39 (by decide +kernel) rfl))
  obtain ⟨c11, i11, k11⟩ := u_known (C := RX11) (T := TX11) (N := 4) (n := 4) hok inX11 (hok _ (ok1 23 (by decide +kernel) rfl))
  obtain ⟨c12, i12, k12⟩ := u_known (C := RX12) (T := TX12) (N := 79) (n := 79) hok inX12 (hok _ (ok5 235 (by decide +kernel) rfl))
  obtain ⟨a0, b0⟩ := arr_cls (ty := .int) (hts _ (List.mem_append_right _ (tin1 (List.mem_of_getElem? (i := 113) (by decide +kernel))))) (fun _ h => by cases h)
  obtain ⟨a1, b1⟩ := arr_cls (ty := .long) (hts _ (List.mem_append_right _ (tin1 (List.mem_of_getElem? (i := 114) (by decide +kernel))))) (fun _ h => by cases h)
  obtain ⟨a2, b2⟩ := arr_cls (ty := .boolean) (hts _ (List.mem_append_right _ (tin7 (List.mem_of_getElem? (i := 146) (by decide +kernel))))) (fun _ h => by cases h)
  obtain ⟨a3, b3⟩ := arr_arr (t := .int) (hts _ (List.mem_append_right _ (tin6 (List.mem_of_getElem? (i := 147) (by decide +kernel)))))
  obtain ⟨a4, b4⟩ := arr_obj (C := "ShareEight$User") (hts _ (List.mem_append_right _ (tin2 (List.mem_of_getElem? (i := 38) (by decide +kernel)))))
  obtain ⟨a5, b5⟩ := arr_obj (C := "ShareEight$Slot") (hts _ (List.mem_append_right _ (tin2 (List.mem_of_getElem? (i := 161) (by decide +kernel)))))
  refine ⟨(fun k => [c0, c1, c2, c3, c4, c5, c6, c7, c8, c9, c10, c11, c12].getD k 0, fun k => [i0, i1, i2, i3, i4, i5, i6, i7, i8, i9, i10, i11, i12].getD k (fun _ => 0)), [(a0, .int), (a1, .long), (a2, .boolean), (a3, .array .int), (a4, .object "ShareEight$User"), (a5, .object "ShareEight$Slot")], ⟨?_, ?_⟩, rfl⟩
  · intro k q hq
    match k, hq with
    | 0, hq => cases hq; exact k0
    | 1, hq => cases hq; exact k1
    | 2, hq => cases hq; exact k2
    | 3, hq => cases hq; exact k3
    | 4, hq => cases hq; exact k4
    | 5, hq => cases hq; exact k5
    | 6, hq => cases hq; exact k6
    | 7, hq => cases hq; exact k7
    | 8, hq => cases hq; exact k8
    | 9, hq => cases hq; exact k9
    | 10, hq => cases hq; exact k10
    | 11, hq => cases hq; exact k11
    | 12, hq => cases hq; exact k12
    | k + 13, hq => simp [vwCl] at hq
  · intro k q hq
    match k, hq with
    | 0, hq => cases hq; exact b0
    | 1, hq => cases hq; exact b1
    | 2, hq => cases hq; exact b2
    | 3, hq => cases hq; exact b3
    | 4, hq => cases hq; exact b4
    | 5, hq => cases hq; exact b5
    | k + 6, hq => simp at hq
/-- the memory at the entry -/
def μe : Mem := (0, fun _ => .inl (0, 0, .inl (fun _ => 0)))
theorem start_of {p : Program} {e : Env} {s : State} {m : MethodId} {below : List Frame} {meth : Method} {c : Code} (l : Launch) {b L : Nat} {xs : Nat → Int32} (hL : L ≤ 3076) (C0 : lw_At p s m meth c b L xs) (hf : ∀ g : CG, g.1.2.2 = (L, xs) → ∃ (N U S : Nat) (μ9 : Mem), (U ≤ 6 ∧ S ≤ 4) ∧ f_L_law N g U S 2 μe = some ((), μ9)) : W p l e room_1 s m #[Value.ref b] below meth c s.heap [] 0 0 (lw_Z below #[Value.ref b] s) (entryFrame m ([Value.ref b] : List Value).toArray 4) := by
  obtain ⟨hx, hb, hr, hml, hown, hts, hX, hbl, hlocks, hgv⟩ := id C0
  obtain ⟨D, tys, hK, hty⟩ := kn_start hts
  obtain ⟨ext, he2, hE⟩ := ext_start D tys hL hts hX hbl hgv
  obtain ⟨N, U, S, μ9, hU, h⟩ := hf ((s.heap.size, ext, L, xs), D, tys) rfl
  have hns : ∀ w ∈ lw_ns, va_Nw w s := fun w hw => by
    have h1 := hts w (List.mem_filter.mp hw).1
    have h2 := (List.mem_filter.mp hw).2
    cases w <;> first | (exact va_Nw.of rfl h1) | (exact h1) | (cases h2; done)
  have C : Cx (p, l, e, room_1, s, m, #[Value.ref b], below, meth, c, lw_Z below #[Value.ref b] s) l ((s.heap.size, ext, L, xs), D, tys) (mi_L_law meth.name) := ⟨hx, hb, hml, hown, fun w hw => hts w (List.mem_filter.mp hw).1, hK, hlocks, Nat.le_refl _, rfl, rfl, hr, rfl, hty, hE, hns⟩
  have F : FL (p, l, e, room_1, s, m, #[Value.ref b], below, meth, c, lw_Z below #[Value.ref b] s) ((s.heap.size, ext, L, xs), D, tys) := ⟨b, rfl, rfl, rfl, rfl, hr⟩
  have K := p_L_law C F hU h (by show s.heap.size + 0 = s.heap.size + 0; rfl) s.heap [] _ (fun k q hq => by simp [hw, μe] at hq) va_S.rf (show lv_has _ 4 [(0, Value.ref (ext 2))] by rw [he2]; exact lv_entry ([.ref b]) (n := 4) (Nat.le_of_ble_eq_true rfl))
  rw [lg_entry_eq]
  exact K
