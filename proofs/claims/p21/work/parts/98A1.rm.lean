/-! LAYER 3, leaving the queue -/
theorem up1_up1 {α : Type} (f : Nat → α) (k : Nat) (x y : α) : up1 (up1 f k x) k y = up1 f k y := by
  funext j
  unfold up1
  by_cases h : j = k
  · rw [if_pos h, if_pos h]
  · rw [if_neg h, if_neg h, if_neg h]
theorem up1_id {α : Type} (f : Nat → α) (k : Nat) : up1 f k (f k) = f := by
  funext j
  unfold up1
  by_cases h : j = k
  · rw [if_pos h, h]
  · rw [if_neg h]
theorem up3_up3 {α : Type} (f : Nat → Nat → Nat → α) (a b c : Nat) (x y : α) : up3 (up3 f a b c x) a b c y = up3 f a b c y := by
  funext i j k
  unfold up3
  by_cases h : i = a ∧ j = b ∧ k = c
  · rw [if_pos h, if_pos h]
  · rw [if_neg h, if_neg h, if_neg h]
theorem up3_id {α : Type} (f : Nat → Nat → Nat → α) (a b c : Nat) : up3 f a b c (f a b c) = f := by
  funext i j k
  unfold up3
  by_cases h : i = a ∧ j = b ∧ k = c
  · rw [if_pos h, h.1, h.2.1, h.2.2]
  · rw [if_neg h]
def qsC (t : CS) (Q : Nat → Option Nat) (n : Nat) : CS := (up3 t.1 5 0 1 (nI n), t.2.1, t.2.2.1, t.2.2.2.1, Q)
def qsR (s : RS) (A : Nat → Int32) (n : Nat) : RS := (up1 s.1 63 (nI n), up1 s.2.1 62 A, s.2.2)
section
variable {U S N : Nat} {t : CS} {s : RS}
theorem qsR_id {n : Nat} (h : s.1 63 = nI n) : s = qsR s (s.2.1 62) n := by
  unfold qsR
  rw [← h, up1_id, up1_id]
theorem qsC_id {n : Nat} (h : t.1 5 0 1 = nI n) : t = qsC t t.2.2.2.2 n := by
  unfold qsC
  rw [← h, up3_id]
theorem lv_r (hU : U < 7) {u n : Nat} (hu : u < U) : ∀ (rest : List Nat) (m k : Nat) (A : Nat → Int32) (l : List Nat), k + rest.length = n → n ≤ U → l.length ≤ k → (∀ j, j ∈ rest → j < U) → (∀ i j, l[i]? = some j → A i = nI j) → (∀ i j, rest[i]? = some j → A (k + i) = nI j) → rest.length < m → ∃ A', l_leavesQueue_4 U S N m (nI u) (nI l.length) (nI k) (qsR s A n) = some ((), qsR s A' (l ++ rest.filter (fun j => j ≠ u)).length) ∧ ∀ i j, (l ++ rest.filter (fun j => j ≠ u))[i]? = some j → A' i = nI j := by
  intro rest
  induction rest with
  | nil =>
    intro m k A l hk hn hl hr h1 h2 hm
    obtain ⟨m, rfl⟩ : ∃ m', m = m' + 1 := ⟨m - 1, by simp at hm; omega⟩
    simp at hk
    refine ⟨A, ?_, by simpa using h1⟩
    show h_leavesQueue_4 U S N (l_leavesQueue_4 U S N m) (nI u) (nI l.length) (nI k) (qsR s A n) = _
    unfold h_leavesQueue_4
    rw [show (qsR s A n).1 63 = nI n from rfl, if_pos ((leI (by omega) (by omega)).mpr (by omega))]
    simp only [Option.bind_some, List.filter_nil, List.append_nil]
    unfold pI qsR
    dsimp only
    rw [up1_up1]
  | cons x rest ih =>
    intro m k A l hk hn hl hr h1 h2 hm
    obtain ⟨m, rfl⟩ : ∃ m', m = m' + 1 := ⟨m - 1, by simp at hm; omega⟩
    simp at hk hm
    have hx : x < U := hr x List.mem_cons_self
    have hA : A k = nI x := h2 0 x rfl
    have hA' : (qsR s A n).2.1 62 k = nI x := hA
    show ∃ A', h_leavesQueue_4 U S N (l_leavesQueue_4 U S N m) (nI u) (nI l.length) (nI k) (qsR s A n) = _ ∧ _
    unfold h_leavesQueue_4 g_leavesQueue_40
    rw [show (qsR s A n).1 63 = nI n from rfl, if_neg (fun z => by have := (leI (by omega) (by omega)).mp z; omega), rA_y (by decide) (by omega), hA']
    simp only [Option.bind_some]
    by_cases hxu : x = u
    · subst hxu
      rw [if_neg (not_not_intro rfl), nI_1]
      have := ih m (k + 1) A l (by omega) hn (by omega) (fun j hj => hr j (List.mem_cons_of_mem _ hj)) h1 (fun i j hi => by rw [show k + 1 + i = k + (i + 1) by omega]; exact h2 (i + 1) j (by simpa using hi)) (by omega)
      rw [List.filter_cons_of_neg (by simp)]
      exact this
    · rw [if_pos (fun z => hxu ((eqI (by omega) (by omega)).mp z)), wA_y (by decide) (by omega)]
      simp only [Option.bind_some]
      rw [nI_1, nI_1]
      have e : pA (qsR s A n) 62 l.length (nI x) = qsR s (upd A l.length (nI x)) n := by
        unfold pA qsR
        dsimp only
        rw [up1_s, up1_up1]
      rw [e]
      have := ih m (k + 1) (upd A l.length (nI x)) (l ++ [x]) (by omega) hn (by simp; omega) (fun j hj => hr j (List.mem_cons_of_mem _ hj)) (fun i j hi => by
        unfold upd
        by_cases hi2 : i = l.length
        · subst hi2
          rw [List.getElem?_append_right (Nat.le_refl _), Nat.sub_self] at hi
          simp at hi
          rw [if_pos rfl, hi]
        · have hlt : i < l.length := by have := (List.getElem?_eq_some_iff.mp hi).1; simp at this; omega
          rw [if_neg hi2]
          rw [List.getElem?_append_left hlt] at hi
          exact h1 i j hi) (fun i j hi => by
        unfold upd
        rw [if_neg (by omega)]
        have := h2 (i + 1) j (by simpa using hi)
        rw [← this]
        congr 1
        omega) (by omega)
      rw [List.filter_cons_of_pos (by simpa using hxu)]
      rw [List.length_append] at this
      simpa using this
theorem pl_c (hU : U < 7) {u n : Nat} (hn : n ≤ U) (ht : t.1 5 0 1 = nI n) : ∀ (rest : List Nat) (m k : Nat), k + rest.length = n → (∀ j, j ∈ rest → j < U) → (∀ i j, rest[i]? = some j → t.2.2.2.2 (k + i) = some j) → rest.length < m → (u ∉ rest ∧ ul_X5_placeOf_2 U S N m (some u) (nI k) t = some (-1, t)) ∨ (∃ pre post, rest = pre ++ u :: post ∧ u ∉ pre ∧ ul_X5_placeOf_2 U S N m (some u) (nI k) t = some (nI (k + pre.length), t)) := by
  intro rest
  induction rest with
  | nil =>
    intro m k hk hr h2 hm
    obtain ⟨m, rfl⟩ : ∃ m', m = m' + 1 := ⟨m - 1, by simp at hm; omega⟩
    simp at hk
    refine Or.inl ⟨List.not_mem_nil, ?_⟩
    show uh_X5_placeOf_2 U S N (ul_X5_placeOf_2 U S N m) (some u) (nI k) t = _
    unfold uh_X5_placeOf_2
    rw [ht, if_pos ((leI (by omega) (by omega)).mpr (by omega))]
  | cons x rest ih =>
    intro m k hk hr h2 hm
    obtain ⟨m, rfl⟩ : ∃ m', m = m' + 1 := ⟨m - 1, by simp at hm; omega⟩
    simp at hk hm
    have hx : x < U := hr x List.mem_cons_self
    have hq : t.2.2.2.2 k = some x := h2 0 x rfl
    have e : ul_X5_placeOf_2 U S N (m + 1) (some u) (nI k) t = if ¬ some x = some u then ul_X5_placeOf_2 U S N m (some u) (nI (k + 1)) t else some (nI k, t) := by
      show uh_X5_placeOf_2 U S N (ul_X5_placeOf_2 U S N m) (some u) (nI k) t = _
      unfold uh_X5_placeOf_2
      rw [ht, if_neg (fun z => by have := (leI (by omega) (by omega)).mp z; omega), rU_y (by omega) (by omega), hq]
      simp only [Option.bind_some, vl_y hx]
      rw [nI_1]
    rw [e]
    by_cases hxu : x = u
    · subst hxu
      refine Or.inr ⟨[], rest, rfl, List.not_mem_nil, ?_⟩
      rw [if_neg (not_not_intro rfl)]
      rfl
    · rw [if_pos (fun z => hxu (Option.some.inj z))]
      rcases ih m (k + 1) (by omega) (fun j hj => hr j (List.mem_cons_of_mem _ hj)) (fun i j hi => by rw [show k + 1 + i = k + (i + 1) by omega]; exact h2 (i + 1) j (by simpa using hi)) (by omega) with ⟨h3, h4⟩ | ⟨pre, post, h3, h4, h5⟩
      · refine Or.inl ⟨fun z => ?_, h4⟩
        rcases List.mem_cons.mp z with z | z
        · exact hxu z.symm
        · exact h3 z
      · refine Or.inr ⟨x :: pre, post, by rw [h3]; rfl, fun z => ?_, ?_⟩
        · rcases List.mem_cons.mp z with z | z
          · exact hxu z.symm
          · exact h4 z
        · rw [h5]
          congr 3
          simp
          omega
theorem rm_c (hU : U < 7) : ∀ (rest : List Nat) (m : Nat) (Q : Nat → Option Nat) (l : List Nat), l.length + 1 + rest.length ≤ U → (∀ j, j ∈ rest → j < U) → (∀ i j, l[i]? = some j → Q i = some j) → (∀ i j, rest[i]? = some j → Q (l.length + 1 + i) = some j) → rest.length < m → ∃ Q', ul_X5_remove_14 U S N m (nI l.length) (qsC t Q (l.length + 1 + rest.length)) = some ((), qsC t Q' (l ++ rest).length) ∧ ∀ i j, (l ++ rest)[i]? = some j → Q' i = some j := by
  intro rest
  induction rest with
  | nil =>
    intro m Q l hn hr h1 h2 hm
    obtain ⟨m, rfl⟩ : ∃ m', m = m' + 1 := ⟨m - 1, by simp at hm; omega⟩
    simp at hn
    refine ⟨va_up Q l.length none, ?_, ?_⟩
    · show uh_X5_remove_14 U S N (ul_X5_remove_14 U S N m) (nI l.length) (qsC t Q (l.length + 1)) = _
      unfold uh_X5_remove_14
      rw [show (qsC t Q (l.length + 1)).1 5 0 1 = nI (l.length + 1) from rfl, nI_1, if_pos ((leI (by omega) (by omega)).mpr (Nat.le_refl _)), nI_pred]
      simp only [Option.bind_some]
      rw [show (qI (qsC t Q (l.length + 1)) 5 0 1 (nI l.length)).1 5 0 1 = nI l.length from rfl]
      unfold wU
      rw [if_neg (nI_in (by omega) (by omega)), nI_clamp (by omega)]
      simp only [Option.bind_some, List.append_nil]
      unfold qQ qI qsC
      dsimp only
      rw [up3_up3]
    · intro i j hi
      rw [List.append_nil] at hi
      have := (List.getElem?_eq_some_iff.mp hi).1
      unfold va_up
      rw [if_neg (by omega)]
      exact h1 i j hi
  | cons x rest ih =>
    intro m Q l hn hr h1 h2 hm
    obtain ⟨m, rfl⟩ : ∃ m', m = m' + 1 := ⟨m - 1, by simp at hm; omega⟩
    simp at hn hm
    have hx : x < U := hr x List.mem_cons_self
    have hq : Q (l.length + 1) = some x := h2 0 x rfl
    have e : ul_X5_remove_14 U S N (m + 1) (nI l.length) (qsC t Q (l.length + 1 + (x :: rest).length)) = ul_X5_remove_14 U S N m (nI (l.length + 1)) (qsC t (va_up Q l.length (some x)) (l.length + 1 + (x :: rest).length)) := by
      show uh_X5_remove_14 U S N (ul_X5_remove_14 U S N m) (nI l.length) (qsC t Q (l.length + 1 + (x :: rest).length)) = _
      unfold uh_X5_remove_14
      rw [show (qsC t Q (l.length + 1 + (x :: rest).length)).1 5 0 1 = nI (l.length + 1 + (x :: rest).length) from rfl, nI_1, if_neg (fun z => by have := (leI (by simp; omega) (by omega)).mp z; simp at this; omega), rU_y (by omega) (by omega), show (qsC t Q (l.length + 1 + (x :: rest).length)).2.2.2.2 (l.length + 1) = some x from hq]
      simp only [Option.bind_some, vl_y hx]
      unfold wU
      rw [if_neg (nI_in (by omega) (by omega)), nI_clamp (by omega)]
      rfl
    rw [e]
    have := ih m (va_up Q l.length (some x)) (l ++ [x]) (by simp; omega) (fun j hj => hr j (List.mem_cons_of_mem _ hj)) (fun i j hi => by
      unfold va_up
      by_cases hi2 : i = l.length
      · subst hi2
        rw [List.getElem?_append_right (Nat.le_refl _), Nat.sub_self] at hi
        simp at hi
        rw [if_pos rfl, hi]
      · have hlt : i < l.length := by have := (List.getElem?_eq_some_iff.mp hi).1; simp at this; omega
        rw [if_neg hi2]
        rw [List.getElem?_append_left hlt] at hi
        exact h1 i j hi) (fun i j hi => by
      unfold va_up
      rw [if_neg (by simp; omega)]
      have := h2 (i + 1) j (by simpa using hi)
      rw [← this]
      congr 1
      simp
      omega) (by omega)
    simp only [List.length_append, List.length_cons, List.length_nil, List.append_assoc, List.cons_append, List.nil_append] at this ⊢
    rw [show l.length + 1 + (rest.length + 1) = l.length + (0 + 1) + 1 + rest.length by omega]
    exact this
end
