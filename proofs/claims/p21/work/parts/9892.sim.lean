/-! LAYER 3, how ShareEight's state and the reference's belong together -/
def rf (o : Option Nat) : Int32 := match o with
  | none => -1
  | some j => nI j
def mU : List (Nat × Nat) := [(8, 42), (9, 45), (10, 43), (11, 46), (12, 44), (13, 47), (14, 48), (15, 51), (16, 57), (6, 55), (7, 56)]
def mS : List (Nat × Nat) := [(3, 39), (4, 40)]
def mB : List (Nat × Nat × Nat) := [(2, 5, 33), (2, 6, 34), (2, 7, 66), (2, 10, 74), (2, 11, 75), (1, 0, 67), (1, 4, 77), (1, 5, 71), (1, 6, 72), (1, 7, 73), (5, 1, 63), (11, 1, 1)]
def mC : List (Nat × Nat × Nat) := [(10, 1, 36), (10, 2, 37), (10, 3, 54), (8, 1, 35)]
def SmA (t : CS) (s : RS) : Prop := ∀ p, p ∈ mU → ∀ j, t.1 10 j p.1 = s.2.1 p.2 j
def SmS (t : CS) (s : RS) : Prop := ∀ p, p ∈ mS → ∀ j, t.1 8 j p.1 = s.2.1 p.2 j
def SmB (t : CS) (s : RS) : Prop := ∀ p, p ∈ mB → t.1 p.1 0 p.2.1 = s.1 p.2.2
def SmC (t : CS) (s : RS) : Prop := ∀ p, p ∈ mC → ∀ j i, t.2.1 p.1 j p.2.1 i = s.2.2 p.2.2 j i
def SmR (U S : Nat) (t : CS) (s : RS) : Prop := (s.1 31 = nI U ∧ s.1 32 = nI S) ∧ (∀ j, j < U → t.1 10 j 0 = nI j ∧ s.2.1 41 j = rf (t.2.2.2.1 10 j 19) ∧ vd S (t.2.2.2.1 10 j 19)) ∧ (∀ j, j < S → t.1 8 j 0 = nI j ∧ s.2.1 38 j = rf (t.2.2.2.1 8 j 2) ∧ vd U (t.2.2.2.1 8 j 2)) ∧ s.1 64 = rf (t.2.2.2.1 2 0 8) ∧ vd U (t.2.2.2.1 2 0 8)
def SmL (t : CS) (s : RS) : Prop := t.2.2.2.1 2 0 8 ≠ none → t.1 2 0 9 = s.1 65
def SmK (U S : Nat) (t : CS) (s : RS) : Prop := (s.1 67 = 0 ∧ t.2.2.2.1 1 0 1 = none ∧ t.2.2.2.1 1 0 2 = none ∧ t.1 1 0 3 = 0) ∨ ((s.1 67 = 1 ∨ s.1 67 = 2 ∨ s.1 67 = 3 ∨ s.1 67 = 4) ∧ ∃ u k, u < U ∧ k < S ∧ t.2.2.2.1 1 0 1 = some u ∧ s.1 68 = nI u ∧ t.2.2.2.1 1 0 2 = some k ∧ s.1 69 = nI k ∧ t.1 1 0 3 = s.1 70)
/-- the queue is qs -/
def isQ (U : Nat) (t : CS) (s : RS) (qs : List Nat) : Prop := qs.Nodup ∧ (∀ j, j ∈ qs → j < U) ∧ s.1 63 = nI qs.length ∧ ∀ i j, qs[i]? = some j → t.2.2.2.2 i = some j ∧ s.2.1 62 i = nI j
def SmQ (U : Nat) (t : CS) (s : RS) : Prop := ∃ qs, isQ U t s qs
theorem nd_len : ∀ (U : Nat) (l : List Nat), l.Nodup → (∀ j, j ∈ l → j < U) → l.length ≤ U := by
  intro U
  induction U with
  | zero =>
    intro l _ h
    cases l with
    | nil => exact Nat.le_refl _
    | cons a l => exact absurd (h a List.mem_cons_self) (Nat.not_lt_zero a)
  | succ U ih =>
    intro l hn h
    have h1 := ih (l.erase U) (hn.erase U) (fun j hj => by
      have h2 := h j (List.mem_of_mem_erase hj)
      have h3 : j ≠ U := fun e => by rw [e] at hj; exact (List.Nodup.not_mem_erase hn) hj
      omega)
    have h4 : l.length ≤ (l.erase U).length + 1 := by
      rw [List.length_erase]
      split <;> omega
    omega
def ring (f n : Int32) (a : Nat → Int32) (m : Int32) (b : Nat → Int32) : Prop := ∃ F N, F < 16 ∧ N ≤ 16 ∧ f = nI F ∧ n = nI N ∧ m = nI N ∧ ∀ i, i < N → a ((F + i) % 16) = b i
def SmG (U : Nat) (t : CS) (s : RS) : Prop := ∀ j, j < U → ring (t.1 6 (2 * j) 1) (t.1 6 (2 * j) 2) (t.2.1 6 (2 * j) 0) (s.2.1 50 j) (s.2.2 49 j) ∧ ring (t.1 6 (2 * j + 1) 1) (t.1 6 (2 * j + 1) 2) (t.2.1 6 (2 * j + 1) 0) (s.2.1 53 j) (s.2.2 52 j)
def mk (c : Int32) : Int32 := if c = -1 then -1 else c &&& 4095
def SmM (t : CS) (s : RS) : Prop := ∃ i, i < 2 ∧ t.2.2.2.1 0 0 2 = some i ∧ t.2.2.2.1 0 0 3 = some (1 - i) ∧ ∀ p, p < 4096 → s.2.1 25 p = mk (t.2.1 7 i 0 p)
def SmT (t : CS) (s : RS) : Prop := ∃ n, n ≤ 2000 ∧ s.1 1 = nI n ∧ ∀ i, i < n → t.2.1 11 0 0 i = s.2.1 0 i
def Sim (U S : Nat) (t : CS) (s : RS) : Prop := SmA t s ∧ SmS t s ∧ SmB t s ∧ SmC t s ∧ SmR U S t s ∧ SmL t s ∧ SmK U S t s ∧ SmQ U t s ∧ SmG U t s ∧ SmM t s ∧ SmT t s
theorem all_mem {α : Type} {P : α → Prop} {l : List α} (h : ∀ p, p ∈ l → P p) : ∀ p, p ∈ l → P p := h
/-- both objects are just made -/
theorem Sim_0 {U S : Nat} {a1 a2 a3 a4 : Int32} (h1 : nr a1 6 = nI U) (h2 : nr a2 4 = nI S) : Sim U S (cs0 (nr a3 64) (nr a4 64)) (rs0 U S a1 a2 a3 a4) := by
  refine ⟨?_, ?_, ?_, ?_, ?_, ?_, ?_, ?_, ?_, ?_, ?_⟩
  · intro p hp j
    simp only [mU, List.mem_cons, List.not_mem_nil, or_false] at hp
    rcases hp with rfl | rfl | rfl | rfl | rfl | rfl | rfl | rfl | rfl | rfl | rfl <;> rfl
  · intro p hp j
    simp only [mS, List.mem_cons, List.not_mem_nil, or_false] at hp
    rcases hp with rfl | rfl <;> rfl
  · intro p hp
    simp only [mB, List.mem_cons, List.not_mem_nil, or_false] at hp
    rcases hp with rfl | rfl | rfl | rfl | rfl | rfl | rfl | rfl | rfl | rfl | rfl | rfl <;> rfl
  · intro p hp j i
    simp only [mC, List.mem_cons, List.not_mem_nil, or_false] at hp
    rcases hp with rfl | rfl | rfl | rfl <;> rfl
  · refine ⟨⟨h1, h2⟩, fun j hj => ⟨rfl, ?_, vd_n _⟩, fun j hj => ⟨rfl, ?_, vd_n _⟩, rfl, vd_n _⟩
    · show fil (fun _ => 0) U (-1) j = -1
      unfold fil
      rw [if_pos hj]
    · show fil (fun _ => 0) S (-1) j = -1
      unfold fil
      rw [if_pos hj]
  · intro h
    exact absurd rfl h
  · exact Or.inl ⟨rfl, rfl, rfl, rfl⟩
  · exact ⟨[], List.nodup_nil, fun j hj => absurd hj (List.not_mem_nil), rfl, fun i j hi => by simp at hi⟩
  · exact fun j hj => ⟨⟨0, 0, by decide, by decide, rfl, rfl, rfl, fun i hi => absurd hi (Nat.not_lt_zero i)⟩, ⟨0, 0, by decide, by decide, rfl, rfl, rfl, fun i hi => absurd hi (Nat.not_lt_zero i)⟩⟩
  · refine ⟨0, by decide, rfl, rfl, fun p hp => ?_⟩
    show fil (fun _ => 0) 4096 (-1) p = mk (fil (fun _ => 0) 4096 (-1) p)
    unfold fil
    rw [if_pos hp]
    rfl
  · exact ⟨0, by decide, rfl, fun i hi => absurd hi (Nat.not_lt_zero i)⟩
