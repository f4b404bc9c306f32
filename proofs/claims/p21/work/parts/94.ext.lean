/-! LAYER 2, constructors: the memory behind one = the cell 'a' is E, new cells L behind the old ones, all else as it was -/
def ext (μ : Mem) (a : Nat) (E : ACl) (L : List ACl) : Mem := (μ.1 + L.length, fun b => if b = a then E else match L[b - μ.1]? with
  | some c => if μ.1 ≤ b then c else μ.2 b
  | none => μ.2 b)
theorem ext_a (μ : Mem) (a : Nat) (E : ACl) (L : List ACl) : (ext μ a E L).2 a = E := by
  unfold ext; simp
theorem ext_old {μ : Mem} {a b : Nat} (E : ACl) (L : List ACl) (h : b ≠ a) (hb : b < μ.1) : (ext μ a E L).2 b = μ.2 b := by
  unfold ext
  dsimp only
  rw [if_neg h]
  split
  · rw [if_neg (by omega)]
  · rfl
theorem ext_new {μ : Mem} {a i : Nat} (E : ACl) (L : List ACl) {c : ACl} (ha : a < μ.1) (hi : L[i]? = some c) : (ext μ a E L).2 (μ.1 + i) = c := by
  unfold ext
  dsimp only
  rw [if_neg (by omega), Nat.add_sub_cancel_left, hi]
  simp
theorem ext_n (μ : Mem) (a : Nat) (E : ACl) (L : List ACl) : (ext μ a E L).1 = μ.1 + L.length := rfl
theorem mem_eq {μ ν : Mem} (h1 : μ.1 = ν.1) (h2 : ∀ b, μ.2 b = ν.2 b) : μ = ν := by
  obtain ⟨m, f⟩ := μ
  obtain ⟨n, g⟩ := ν
  cases h1
  have : f = g := funext h2
  rw [this]
theorem ext_0 {μ : Mem} {a : Nat} {E : ACl} (h : μ.2 a = E) : μ = ext μ a E [] := by
  refine mem_eq rfl fun b => ?_
  unfold ext
  dsimp only
  by_cases hb : b = a
  · rw [if_pos hb, hb, h]
  · rw [if_neg hb]; simp
theorem ext_madd {μ : Mem} {a : Nat} (ha : a < μ.1) (E : ACl) (L : List ACl) (c : ACl) : madd (ext μ a E L) c = ext μ a E (L ++ [c]) := by
  refine mem_eq (by unfold madd ext; simp; omega) fun b => ?_
  unfold madd ext va_up
  dsimp only
  by_cases hb : b = μ.1 + L.length
  · subst hb
    rw [if_pos rfl, if_neg (by omega), Nat.add_sub_cancel_left]
    simp
  · rw [if_neg hb]
    by_cases ha2 : b = a
    · rw [if_pos ha2, if_pos ha2]
    · rw [if_neg ha2, if_neg ha2]
      by_cases hl : b - μ.1 < L.length
      · rw [List.getElem?_append_left hl]
      · rw [List.getElem?_eq_none (by omega), List.getElem?_append_right (by omega)]
        by_cases hm : b - μ.1 - L.length = 0
        · have : b < μ.1 ∨ b = μ.1 + L.length := by omega
          rcases this with h | h
          · rw [hm]; simp; omega
          · exact absurd h hb
        · rw [List.getElem?_eq_none (by simp; omega)]
theorem ext_mu (μ : Mem) (a : Nat) (E : ACl) (L : List ACl) (h : ACl → ACl) : mu (ext μ a E L) a h = ext μ a (h E) L := by
  refine mem_eq rfl fun b => ?_
  rw [mu_at]
  by_cases hb : b = a
  · subst hb; rw [if_pos rfl, ext_a, ext_a]
  · rw [if_neg hb]; unfold ext; dsimp only; rw [if_neg hb, if_neg hb]
/-- a constructor that was called for a new cell -/
theorem ext_in {μ : Mem} {a i : Nat} (ha : a < μ.1) (E : ACl) (L : List ACl) (hi : i < L.length) (E2 : ACl) (L2 : List ACl) : ext (ext μ a E L) (μ.1 + i) E2 L2 = ext μ a E (L.set i E2 ++ L2) := by
  refine mem_eq (by unfold ext; simp; omega) fun b => ?_
  by_cases hb : b = μ.1 + i
  · subst hb
    rw [ext_a, ext_new _ _ ha (c := E2) (by rw [List.getElem?_append_left (by simp; exact hi), List.getElem?_set_self hi])]
  · by_cases ha2 : b = a
    · subst ha2
      rw [ext_a, ext_old _ _ hb (by rw [ext_n]; omega), ext_a]
    · by_cases h1 : b < μ.1
      · rw [ext_old _ _ hb (by rw [ext_n]; omega), ext_old _ _ ha2 h1, ext_old _ _ ha2 h1]
      · obtain ⟨j, rfl⟩ : ∃ j, b = μ.1 + j := ⟨b - μ.1, by omega⟩
        by_cases hj : j < L.length
        · rw [ext_old _ _ hb (by rw [ext_n]; omega), ext_new _ _ ha (List.getElem?_eq_getElem hj), ext_new _ _ ha (c := L[j]) (by rw [List.getElem?_append_left (by simp; exact hj), List.getElem?_set_ne (by omega), List.getElem?_eq_getElem hj])]
        · by_cases hk : j - L.length < L2.length
          · have e1 : μ.1 + j = (ext μ a E L).1 + (j - L.length) := by rw [ext_n]; omega
            rw [ext_new (μ := μ) _ _ ha (c := L2[j - L.length]) (by rw [List.getElem?_append_right (by simp; omega)]; simp [List.getElem?_eq_getElem hk]), e1, ext_new (μ := ext μ a E L) _ _ (by rw [ext_n]; omega) (List.getElem?_eq_getElem hk)]
          · have e2 : ∀ (ν : Mem) (a' b' : Nat) (E' : ACl) (M : List ACl), b' ≠ a' → ν.1 + M.length ≤ b' → (ext ν a' E' M).2 b' = ν.2 b' := fun ν a' b' E' M q1 q2 => by
              unfold ext
              dsimp only
              rw [if_neg q1, List.getElem?_eq_none (by omega)]
            rw [e2 _ _ _ _ _ hb (by rw [ext_n]; omega), e2 _ _ _ _ _ ha2 (by omega), e2 _ _ _ _ _ ha2 (by simp; omega)]
