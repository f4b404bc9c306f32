/-! LAYER 1: the methods, their rooms (by program) -/
def mi_J0_coder_7d493 : MI := (cJ0_coder_7d493, 1, RJ0, "coder", (some .byte), { frames := 0, cells := 0, slots := 0, locals := 0 })
def mi_J0_length_8abf5 : MI := (cJ0_length_8abf5, 1, RJ0, "length", (some .int), { frames := 1, cells := 0, slots := 0, locals := 20 })
def mi_J0_isLatin1_aae02 : MI := (cJ0_isLatin1_aae02, 1, RJ0, "isLatin1", (some .boolean), { frames := 0, cells := 0, slots := 0, locals := 0 })
def mi_J3_checkIndex_8e157 : MI := (cJ3_checkIndex_8e157, 3, RJ3, "checkIndex", (some .int), { frames := 0, cells := 0, slots := 0, locals := 0 })
def mi_J0_checkIndex_df160 : MI := (cJ0_checkIndex_df160, 2, RJ0, "checkIndex", none, { frames := 1, cells := 0, slots := 0, locals := 22 })
def mi_J1_charAt_3b067 : MI := (cJ1_charAt_3b067, 2, RJ1, "charAt", (some .char), { frames := 2, cells := 0, slots := 0, locals := 43 })
def mi_J0_charAt_5068e : MI := (cJ0_charAt_5068e, 2, RJ0, "charAt", (some .char), { frames := 3, cells := 0, slots := 0, locals := 64 })
def mi_J7_fill_53178 : MI := (cJ7_fill_53178, 4, RJ7, "fill", none, { frames := 0, cells := 0, slots := 0, locals := 0 })
def mi_J9_min_7cf53 : MI := (cJ9_min_7cf53, 2, RJ9, "min", (some .int), { frames := 0, cells := 0, slots := 0, locals := 0 })
def mi_J9_max_7cf53 : MI := (cJ9_max_7cf53, 2, RJ9, "max", (some .int), { frames := 0, cells := 0, slots := 0, locals := 0 })
def mi_J1_canEncode_9a6ad : MI := (cJ1_canEncode_9a6ad, 1, RJ1, "canEncode", (some .boolean), { frames := 0, cells := 0, slots := 0, locals := 0 })
def mi_J1_indexOfChar_4cfef : MI := (cJ1_indexOfChar_4cfef, 6, RJ1, "indexOfChar", (some .int), { frames := 0, cells := 0, slots := 0, locals := 0 })
def mi_J1_indexOf_4cfef : MI := (cJ1_indexOf_4cfef, 4, RJ1, "indexOf", (some .int), { frames := 1, cells := 0, slots := 0, locals := 25 })
def mi_J0_indexOf_7cf53 : MI := (cJ0_indexOf_7cf53, 3, RJ0, "indexOf", (some .int), { frames := 2, cells := 0, slots := 0, locals := 48 })
def mi_J0_indexOf_0f7a4 : MI := (cJ0_indexOf_0f7a4, 2, RJ0, "indexOf", (some .int), { frames := 3, cells := 0, slots := 0, locals := 70 })
theorem ok_at {w : Cond} (i : Nat) (h : tables_1[i]? = some w) (hg : goodW w = true) : w ∈ lw_ok := List.mem_filter.mpr ⟨List.mem_append_right _ (List.mem_of_getElem? h), hg⟩
theorem ns_at {w : Cond} (i : Nat) (h : tables_1[i]? = some w) (hg : nestW w = true) : w ∈ lw_ns := List.mem_filter.mpr ⟨List.mem_append_right _ (List.mem_of_getElem? h), hg⟩
theorem sel_at {y : MethodName} (i : Nat) (h : (k2_sels lw_privs)[i]? = some (Cond.selects y.cls y y)) (hg : goodW (Cond.selects y.cls y y) = true) : Cond.selects y.cls y y ∈ lw_ok := List.mem_filter.mpr ⟨List.mem_append_left _ (List.mem_of_getElem? h), hg⟩

