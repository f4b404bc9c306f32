/-! LAYER 2, both objects in one memory -/
section
variable {μ : BM} {a U S : Nat}
theorem EC_out (t : CS) {b : Nat} (ha : b ≠ a) (h : b < μ.1 ∨ μ.1 + (keys U S).length ≤ b) : (EC μ a U S t).2 b = μ.2.2 b := by
  unfold EC ext
  dsimp only
  rw [if_neg ha]
  rcases h with h | h
  · split
    · rw [if_neg (by omega)]
    · rfl
  · rw [List.getElem?_eq_none (by rw [List.length_map]; omega)]
theorem EC_in (t : CS) {b : Nat} (ha : b ≠ a) (h1 : μ.1 ≤ b) (h2 : b - μ.1 < (keys U S).length) : (EC μ a U S t).2 b = cel (adr μ a U S) U S t ((keys U S)[b - μ.1]) := by
  unfold EC ext
  dsimp only
  rw [if_neg ha, List.getElem?_map, List.getElem?_eq_getElem h2]
  dsimp only [Option.map_some]
  rw [if_pos h1]
theorem EC_a (t : CS) : (EC μ a U S t).2 a = cel (adr μ a U S) U S t (11, 0, 0) := ext_a _ _ _ _
end
/-- the memory with the class's cells as t and the reference's as s -/
def ZM (m : Mem) (n0 a r U S : Nat) (t : CS) (s : RS) : Mem := EM (EC (n0, m) a U S t) r (pcs U S) s
def ZW (m : Mem) (n0 a r U S : Nat) : Prop := Wd (n0, m) a U S ∧ r < m.1 ∧ n0 + (keys U S).length ≤ r
section
variable {m : Mem} {n0 a r U S : Nat}
theorem pcl_len (s s2 : RS) : ∀ (ps : List Pc) (b b2 : Nat), (pcl s b ps).length = (pcl s2 b2 ps).length := by
  intro ps
  induction ps with
  | nil => intro b b2; rfl
  | cons p ps ih => intro b b2; unfold pcl; rw [List.length_append, List.length_append, pc1_len, pc1_len, ih]
theorem ZM_n (t : CS) (s : RS) : (ZM m n0 a r U S t s).1 = m.1 + (pcl s m.1 (pcs U S)).length := rfl
theorem Z_W (W : ZW m n0 a r U S) (t : CS) (s : RS) : Wd (n0, ZM m n0 a r U S t s) a U S := by
  obtain ⟨⟨h1, h2, h3, h4⟩, h5, h6⟩ := W
  refine ⟨h1, h2, h3, ?_⟩
  show n0 + _ ≤ (ZM m n0 a r U S t s).1
  have h4' : n0 + (keys U S).length ≤ m.1 := h4
  rw [ZM_n]
  omega
theorem Z_up (W : ZW m n0 a r U S) (t t2 : CS) (s : RS) : EC (n0, ZM m n0 a r U S t s) a U S t2 = ZM m n0 a r U S t2 s := by
  obtain ⟨⟨h1, h2, h3, h4⟩, h5, h6⟩ := W
  have h1' : a < n0 := h1
  have h4' : n0 + (keys U S).length ≤ m.1 := h4
  have hold : ∀ (t : CS) (b : Nat), b ≠ r → b < m.1 → (ZM m n0 a r U S t s).2 b = (EC (n0, m) a U S t).2 b := fun t b hb hl => ext_old (μ := EC (n0, m) a U S t) _ _ hb hl
  refine mem_eq rfl fun b => ?_
  by_cases ha : b = a
  · subst ha
    rw [EC_a, hold t2 b (by omega) (by omega), EC_a]
    rfl
  · by_cases hin : n0 ≤ b ∧ b - n0 < (keys U S).length
    · rw [EC_in t2 ha hin.1 hin.2, hold t2 b (by omega) (by omega), EC_in t2 ha hin.1 hin.2]
      rfl
    · rw [EC_out t2 ha (by show b < n0 ∨ n0 + _ ≤ b; omega)]
      show (ZM m n0 a r U S t s).2 b = _
      have hout : (EC (n0, m) a U S t).2 b = (EC (n0, m) a U S t2).2 b := by
        rw [EC_out t ha (by show b < n0 ∨ n0 + _ ≤ b; omega), EC_out t2 ha (by show b < n0 ∨ n0 + _ ≤ b; omega)]
      by_cases hr : b = r
      · subst hr
        rw [show (ZM m n0 a b U S t s).2 b = _ from ext_a _ _ _ _, show (ZM m n0 a b U S t2 s).2 b = _ from ext_a _ _ _ _]
        rfl
      · by_cases hl : b < m.1
        · rw [hold t b hr hl, hold t2 b hr hl, hout]
        · by_cases hp : b - m.1 < (pcl s m.1 (pcs U S)).length
          · obtain ⟨i, rfl⟩ : ∃ i, b = m.1 + i := ⟨b - m.1, by omega⟩
            have hi : i < (pcl s m.1 (pcs U S)).length := by omega
            rw [show (ZM m n0 a r U S t s).2 (m.1 + i) = _ from ext_new (μ := EC (n0, m) a U S t) _ _ h5 (List.getElem?_eq_getElem hi), show (ZM m n0 a r U S t2 s).2 (m.1 + i) = _ from ext_new (μ := EC (n0, m) a U S t2) _ _ h5 (List.getElem?_eq_getElem hi)]
          · rw [show (ZM m n0 a r U S t s).2 b = _ from ext_far (μ := EC (n0, m) a U S t) _ _ hr (by show m.1 + (pcl s m.1 (pcs U S)).length ≤ b; omega), show (ZM m n0 a r U S t2 s).2 b = _ from ext_far (μ := EC (n0, m) a U S t2) _ _ hr (by show m.1 + (pcl s m.1 (pcs U S)).length ≤ b; omega), hout]
/-- a step of the class -/
theorem z_c (W : ZW m n0 a r U S) {α β : Type} {E : α → β} {t : CS} {s : RS} {c : Option (α × CS)} {f : Mem → Option (β × Mem)} (h : IM (n0, ZM m n0 a r U S t s) a U S E c (f (EC (n0, ZM m n0 a r U S t s) a U S t))) {q : α × CS} (hc : c = some q) : f (ZM m n0 a r U S t s) = some (E q.1, ZM m n0 a r U S q.2 s) := by
  have := h q hc
  rw [Z_up W, Z_up W] at this
  exact this
/-- a step of the reference -/
theorem z_r {α : Type} {t : CS} {s : RS} {c : Option (α × RS)} {f : Mem → Option (α × Mem)} (h : f (EM (EC (n0, m) a U S t) r (pcs U S) s) = c.map (em (EC (n0, m) a U S t) r U S)) {q : α × RS} (hc : c = some q) : f (ZM m n0 a r U S t s) = some (q.1, ZM m n0 a r U S t q.2) := by
  rw [hc] at h
  exact h
theorem z_ck (W : ZW m n0 a r U S) (t : CS) (s : RS) : mck (ZM m n0 a r U S t s) (some a) 11 = some a := by
  obtain ⟨b, h1, h2⟩ := o_ck (Z_W W t s) t (ik_11 U S)
  have : adr (n0, ZM m n0 a r U S t s) a U S (11, 0, 0) = some a := by unfold adr; rw [if_pos rfl]
  rw [this] at h1
  cases h1
  rw [Z_up W] at h2
  exact h2
theorem z_rk (W : ZW m n0 a r U S) (t : CS) (s : RS) : mck (ZM m n0 a r U S t s) (some r) 12 = some r := e_ck (show r < (EC (n0, m) a U S t).1 from W.2.1) s
end
