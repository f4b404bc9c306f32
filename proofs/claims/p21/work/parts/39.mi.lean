/-! LAYER 1: the methods, their rooms (by program) -/
def mi_J0_coder_7d493 : MI := (cJ0_coder_7d493, 1, RJ0, "coder", (some .byte), { frames := 0, cells := 0, slots := 0, locals := 0 })
def mi_J0_length_8abf5 : MI := (cJ0_length_8abf5, 1, RJ0, "length", (some .int), { frames := 1, cells := 0, slots := 0, locals := 20 })
def mi_J0_isLatin1_aae02 : MI := (cJ0_isLatin1_aae02, 1, RJ0, "isLatin1", (some .boolean), { frames := 0, cells := 0, slots := 0, locals := 0 })
def mi_J3_checkIndex_8e157 : MI := (cJ3_checkIndex_8e157, 3, RJ3, "checkIndex", (some .int), { frames := 0, cells := 0, slots := 0, locals := 0 })
def mi_J0_checkIndex_df160 : MI := (cJ0_checkIndex_df160, 2, RJ0, "checkIndex", none, { frames := 1, cells := 0, slots := 0, locals := 22 })
def mi_J1_charAt_3b067 : MI := (cJ1_charAt_3b067, 2, RJ1, "charAt", (some .char), { frames := 2, cells := 0, slots := 0, locals := 43 })
def mi_J0_charAt_5068e : MI := (cJ0_charAt_5068e, 2, RJ0, "charAt", (some .char), { frames := 3, cells := 0, slots := 0, locals := 64 })
def mi_J7_fill_53178 : MI := (cJ7_fill_53178, 4, RJ7, "fill", none, { frames := 0, cells := 0, slots := 0, locals := 0 })
def mi_J9_min_7cf53 : MI := (cJ9_min_7cf53, 2, RJ9, "min", (some .int), { frames := 0, cells := 0, slots := 0, locals := 0 })
def mi_J9_max_7cf53 : MI := (cJ9_max_7cf53, 2, RJ9, "max", (some .int), { frames := 0, cells := 0, slots := 0, locals := 0 })
def mi_J1_canEncode_9a6ad : MI := (cJ1_canEncode_9a6ad, 1, RJ1, "canEncode", (some .boolean), { frames := 0, cells := 0, slots := 0, locals := 0 })
def mi_J1_indexOfChar_4cfef : MI := (cJ1_indexOfChar_4cfef, 6, RJ1, "indexOfChar", (some .int), { frames := 0, cells := 0, slots := 0, locals := 0 })
def mi_J1_indexOf_4cfef : MI := (cJ1_indexOf_4cfef, 4, RJ1, "indexOf", (some .int), { frames := 1, cells := 0, slots := 0, locals := 25 })
def mi_J0_indexOf_7cf53 : MI := (cJ0_indexOf_7cf53, 3, RJ0, "indexOf", (some .int), { frames := 2, cells := 0, slots := 0, locals := 48 })
def mi_J0_indexOf_0f7a4 : MI := (cJ0_indexOf_0f7a4, 2, RJ0, "indexOf", (some .int), { frames := 3, cells := 0, slots := 0, locals := 70 })
theorem ok_at {w : Cond} (i : Nat) (h : tables_1[i]? = some w) (hg : goodW w = true) : w ∈ lw_ok := List.mem_filter.mpr ⟨List.mem_append_right _ (List.mem_of_getElem? h), hg⟩
theorem ok_list {ws : List Cond} (is : List Nat) (h : is.map (fun i => tables_1[i]?) = ws.map some) (hg : ws.all goodW = true) : ∀ w ∈ ws, w ∈ lw_ok := by
  intro w hw
  have h1 : some w ∈ is.map (fun i => tables_1[i]?) := by rw [h]; exact List.mem_map.mpr ⟨w, hw, rfl⟩
  obtain ⟨i, -, hi⟩ := List.mem_map.mp h1
  exact ok_at i hi (List.all_eq_true.mp hg w hw)
theorem ns_at {w : Cond} (i : Nat) (h : tables_1[i]? = some w) (hg : nestW w = true) : w ∈ lw_ns := List.mem_filter.mpr ⟨List.mem_append_right _ (List.mem_of_getElem? h), hg⟩
theorem sel_at {y : MethodName} (i : Nat) (h : (k2_sels lw_privs)[i]? = some (Cond.selects y.cls y y)) (hg : goodW (Cond.selects y.cls y y) = true) : Cond.selects y.cls y y ∈ lw_ok := List.mem_filter.mpr ⟨List.mem_append_left _ (List.mem_of_getElem? h), hg⟩

theorem tin1 {w : Cond} (h : w ∈ tables_1_1) : w ∈ tables_1 := (List.mem_append_left _ h)
theorem ok1 {w : Cond} (i : Nat) (h : tables_1_1[i]? = some w) (hg : goodW w = true) : w ∈ lw_ok := List.mem_filter.mpr ⟨List.mem_append_right _ (tin1 (List.mem_of_getElem? h)), hg⟩
theorem ns1 {w : Cond} (i : Nat) (h : tables_1_1[i]? = some w) (hg : nestW w = true) : w ∈ lw_ns := List.mem_filter.mpr ⟨List.mem_append_right _ (tin1 (List.mem_of_getElem? h)), hg⟩
theorem tin2 {w : Cond} (h : w ∈ tables_1_2) : w ∈ tables_1 := (List.mem_append_right _ (List.mem_append_left _ h))
theorem ok2 {w : Cond} (i : Nat) (h : tables_1_2[i]? = some w) (hg : goodW w = true) : w ∈ lw_ok := List.mem_filter.mpr ⟨List.mem_append_right _ (tin2 (List.mem_of_getElem? h)), hg⟩
theorem ns2 {w : Cond} (i : Nat) (h : tables_1_2[i]? = some w) (hg : nestW w = true) : w ∈ lw_ns := List.mem_filter.mpr ⟨List.mem_append_right _ (tin2 (List.mem_of_getElem? h)), hg⟩
theorem tin3 {w : Cond} (h : w ∈ tables_1_3) : w ∈ tables_1 := (List.mem_append_right _ (List.mem_append_right _ (List.mem_append_left _ h)))
theorem ok3 {w : Cond} (i : Nat) (h : tables_1_3[i]? = some w) (hg : goodW w = true) : w ∈ lw_ok := List.mem_filter.mpr ⟨List.mem_append_right _ (tin3 (List.mem_of_getElem? h)), hg⟩
theorem ns3 {w : Cond} (i : Nat) (h : tables_1_3[i]? = some w) (hg : nestW w = true) : w ∈ lw_ns := List.mem_filter.mpr ⟨List.mem_append_right _ (tin3 (List.mem_of_getElem? h)), hg⟩
theorem tin4 {w : Cond} (h : w ∈ tables_1_4) : w ∈ tables_1 := (List.mem_append_right _ (List.mem_append_right _ (List.mem_append_right _ (List.mem_append_left _ h))))
theorem ok4 {w : Cond} (i : Nat) (h : tables_1_4[i]? = some w) (hg : goodW w = true) : w ∈ lw_ok := List.mem_filter.mpr ⟨List.mem_append_right _ (tin4 (List.mem_of_getElem? h)), hg⟩
theorem ns4 {w : Cond} (i : Nat) (h : tables_1_4[i]? = some w) (hg : nestW w = true) : w ∈ lw_ns := List.mem_filter.mpr ⟨List.mem_append_right _ (tin4 (List.mem_of_getElem? h)), hg⟩
theorem tin5 {w : Cond} (h : w ∈ tables_1_5) : w ∈ tables_1 := (List.mem_append_right _ (List.mem_append_right _ (List.mem_append_right _ (List.mem_append_right _ (List.mem_append_left _ h)))))
theorem ok5 {w : Cond} (i : Nat) (h : tables_1_5[i]? = some w) (hg : goodW w = true) : w ∈ lw_ok := List.mem_filter.mpr ⟨List.mem_append_right _ (tin5 (List.mem_of_getElem? h)), hg⟩
theorem ns5 {w : Cond} (i : Nat) (h : tables_1_5[i]? = some w) (hg : nestW w = true) : w ∈ lw_ns := List.mem_filter.mpr ⟨List.mem_append_right _ (tin5 (List.mem_of_getElem? h)), hg⟩
theorem tin6 {w : Cond} (h : w ∈ tables_1_6) : w ∈ tables_1 := (List.mem_append_right _ (List.mem_append_right _ (List.mem_append_right _ (List.mem_append_right _ (List.mem_append_right _ (List.mem_append_left _ h))))))
theorem ok6 {w : Cond} (i : Nat) (h : tables_1_6[i]? = some w) (hg : goodW w = true) : w ∈ lw_ok := List.mem_filter.mpr ⟨List.mem_append_right _ (tin6 (List.mem_of_getElem? h)), hg⟩
theorem ns6 {w : Cond} (i : Nat) (h : tables_1_6[i]? = some w) (hg : nestW w = true) : w ∈ lw_ns := List.mem_filter.mpr ⟨List.mem_append_right _ (tin6 (List.mem_of_getElem? h)), hg⟩
theorem tin7 {w : Cond} (h : w ∈ tables_1_7) : w ∈ tables_1 := (List.mem_append_right _ (List.mem_append_right _ (List.mem_append_right _ (List.mem_append_right _ (List.mem_append_right _ (List.mem_append_right _ (List.mem_append_left _ h)))))))
theorem ok7 {w : Cond} (i : Nat) (h : tables_1_7[i]? = some w) (hg : goodW w = true) : w ∈ lw_ok := List.mem_filter.mpr ⟨List.mem_append_right _ (tin7 (List.mem_of_getElem? h)), hg⟩
theorem ns7 {w : Cond} (i : Nat) (h : tables_1_7[i]? = some w) (hg : nestW w = true) : w ∈ lw_ns := List.mem_filter.mpr ⟨List.mem_append_right _ (tin7 (List.mem_of_getElem? h)), hg⟩
theorem tin8 {w : Cond} (h : w ∈ tables_1_8) : w ∈ tables_1 := (List.mem_append_right _ (List.mem_append_right _ (List.mem_append_right _ (List.mem_append_right _ (List.mem_append_right _ (List.mem_append_right _ (List.mem_append_right _ h)))))))
theorem ok8 {w : Cond} (i : Nat) (h : tables_1_8[i]? = some w) (hg : goodW w = true) : w ∈ lw_ok := List.mem_filter.mpr ⟨List.mem_append_right _ (tin8 (List.mem_of_getElem? h)), hg⟩
theorem ns8 {w : Cond} (i : Nat) (h : tables_1_8[i]? = some w) (hg : nestW w = true) : w ∈ lw_ns := List.mem_filter.mpr ⟨List.mem_append_right _ (tin8 (List.mem_of_getElem? h)), hg⟩
