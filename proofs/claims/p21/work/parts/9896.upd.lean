/-! LAYER 3, what keeps Sim -/
section
variable {U S N : Nat} {t : CS} {s : RS}
theorem SmB_c (H : SmB t s) {ci : Nat} (h : ci ≠ 1 ∧ ci ≠ 2 ∧ ci ≠ 5 ∧ ci ≠ 11) (u k : Nat) (x : Int32) : SmB (qI t ci u k x) s := by
  intro p hp
  have : p.1 = 1 ∨ p.1 = 2 ∨ p.1 = 5 ∨ p.1 = 11 := by
    have : ∀ p, p ∈ mB → p.1 = 1 ∨ p.1 = 2 ∨ p.1 = 5 ∨ p.1 = 11 := by decide
    exact this p hp
  show up3 t.1 ci u k x p.1 0 p.2.1 = _
  rw [up3_n _ _ (fun e => by rw [e.1] at this; omega)]
  exact H p hp
/-- a number of a user, put on both sides -/
theorem Sim_U (H : Sim U S t s) {q : Nat × Nat} (hq : q ∈ mU) (u : Nat) (x : Int32) : Sim U S (qI t 10 u q.1 x) (pA s q.2 u x) := by
  obtain ⟨hA, hSs, hB, hC, hR, hL, hK, hQ, hG, hM, hT⟩ := H
  have hne : q.1 ≠ 0 ∧ q.2 ≠ 39 ∧ q.2 ≠ 40 ∧ q.2 ≠ 41 ∧ q.2 ≠ 38 ∧ q.2 ≠ 62 ∧ q.2 ≠ 50 ∧ q.2 ≠ 53 ∧ q.2 ≠ 25 ∧ q.2 ≠ 0 := by
    have : ∀ q, q ∈ mU → q.1 ≠ 0 ∧ q.2 ≠ 39 ∧ q.2 ≠ 40 ∧ q.2 ≠ 41 ∧ q.2 ≠ 38 ∧ q.2 ≠ 62 ∧ q.2 ≠ 50 ∧ q.2 ≠ 53 ∧ q.2 ≠ 25 ∧ q.2 ≠ 0 := by decide
    exact this q hq
  have f5 : ∀ k, k ≠ q.2 → (pA s q.2 u x).2.1 k = s.2.1 k := fun k hk => up1_n _ _ hk
  have g5 : ∀ k, q.2 ≠ k → (pA s q.2 u x).2.1 k = s.2.1 k := fun k hk => f5 k (Ne.symm hk)
  refine ⟨SmA_w hA hq u x, ?_, SmB_c (s := pA s q.2 u x) hB (by decide) u q.1 x, hC, ?_, hL, hK, ?_, ?_, ?_, ?_⟩
  · intro p hp j
    have : p.2 = 39 ∨ p.2 = 40 := by
      have : ∀ p, p ∈ mS → p.2 = 39 ∨ p.2 = 40 := by decide
      exact this p hp
    rw [f5 p.2 (by rcases this with h | h <;> rw [h] <;> first | exact Ne.symm hne.2.1 | exact Ne.symm hne.2.2.1)]
    exact hSs p hp j
  · refine ⟨hR.1, fun j hj => ?_, fun j hj => ?_, hR.2.2.2⟩
    · rw [g5 41 hne.2.2.2.1]
      obtain ⟨a, b, c⟩ := hR.2.1 j hj
      refine ⟨?_, b, c⟩
      show up3 t.1 10 u q.1 x 10 j 0 = nI j
      rw [up3_n _ _ (fun e => hne.1 e.2.2.symm)]
      exact a
    · rw [g5 38 hne.2.2.2.2.1]
      exact hR.2.2.1 j hj
  · unfold SmQ isQ
    rw [g5 62 hne.2.2.2.2.2.1]
    exact hQ
  · intro j hj
    rw [g5 50 hne.2.2.2.2.2.2.1, g5 53 hne.2.2.2.2.2.2.2.1]
    exact hG j hj
  · unfold SmM
    rw [g5 25 hne.2.2.2.2.2.2.2.2.1]
    exact hM
  · unfold SmT
    rw [g5 0 hne.2.2.2.2.2.2.2.2.2]
    exact hT
/-- a flag of a slot -/
theorem Sim_S (H : Sim U S t s) {q : Nat × Nat} (hq : q ∈ mS) (u : Nat) (x : Int32) : Sim U S (qI t 8 u q.1 x) (pA s q.2 u x) := by
  obtain ⟨hA, hSs, hB, hC, hR, hL, hK, hQ, hG, hM, hT⟩ := H
  have hq2 : q = (3, 39) ∨ q = (4, 40) := by
    simp only [mS, List.mem_cons, List.not_mem_nil, or_false] at hq
    exact hq
  have f5 : ∀ k, k ≠ q.2 → (pA s q.2 u x).2.1 k = s.2.1 k := fun k hk => up1_n _ _ hk
  refine ⟨?_, SmS_w hSs hq u x, SmB_c (s := pA s q.2 u x) hB (by decide) u q.1 x, hC, ?_, hL, hK, ?_, ?_, ?_, ?_⟩
  · intro p hp j
    have : p.2 ≠ 39 ∧ p.2 ≠ 40 := by
      have : ∀ p, p ∈ mU → p.2 ≠ 39 ∧ p.2 ≠ 40 := by decide
      exact this p hp
    rw [f5 p.2 (by rcases hq2 with h | h <;> rw [h] <;> first | exact this.1 | exact this.2)]
    exact hA p hp j
  · rcases hq2 with rfl | rfl
    · exact ⟨hR.1, hR.2.1, fun j hj => ⟨by show up3 t.1 8 u 3 x 8 j 0 = nI j; rw [up3_n _ _ (fun e => absurd e.2.2 (by decide))]; exact (hR.2.2.1 j hj).1, (hR.2.2.1 j hj).2⟩, hR.2.2.2⟩
    · exact ⟨hR.1, hR.2.1, fun j hj => ⟨by show up3 t.1 8 u 4 x 8 j 0 = nI j; rw [up3_n _ _ (fun e => absurd e.2.2 (by decide))]; exact (hR.2.2.1 j hj).1, (hR.2.2.1 j hj).2⟩, hR.2.2.2⟩
  · rcases hq2 with rfl | rfl <;> exact hQ
  · rcases hq2 with rfl | rfl <;> exact hG
  · rcases hq2 with rfl | rfl <;> exact hM
  · rcases hq2 with rfl | rfl <;> exact hT
/-- a word of drum, file, paper or core -/
theorem Sim_C (H : Sim U S t s) {q : Nat × Nat × Nat} (hq : q ∈ mC) (u i : Nat) (x : Int32) : Sim U S (qA t q.1 u q.2.1 i x) (pG s q.2.2 u i x) := by
  obtain ⟨hA, hSs, hB, hC, hR, hL, hK, hQ, hG, hM, hT⟩ := H
  have hq2 : q = (10, 1, 36) ∨ q = (10, 2, 37) ∨ q = (10, 3, 54) ∨ q = (8, 1, 35) := by
    simp only [mC, List.mem_cons, List.not_mem_nil, or_false] at hq
    exact hq
  have hC2 := SmC_w hC hq u i x
  rcases hq2 with rfl | rfl | rfl | rfl <;> exact ⟨hA, hSs, hB, hC2, hR, hL, hK, hQ, hG, hM, hT⟩
def mB2 : List (Nat × Nat × Nat) := [(2, 5, 33), (2, 6, 34), (2, 7, 66), (2, 10, 74), (2, 11, 75), (1, 4, 77), (1, 5, 71), (1, 6, 72), (1, 7, 73)]
/-- a number of the house -/
theorem Sim_B (H : Sim U S t s) {q : Nat × Nat × Nat} (hq : q ∈ mB2) (x : Int32) : Sim U S (qI t q.1 0 q.2.1 x) (pI s q.2.2 x) := by
  obtain ⟨hA, hSs, hB, hC, hR, hL, hK, hQ, hG, hM, hT⟩ := H
  have hq1 : q ∈ mB := by
    have : ∀ q, q ∈ mB2 → q ∈ mB := by decide
    exact this q hq
  have hB2 := SmB_w hB hq1 x
  simp only [mB2, List.mem_cons, List.not_mem_nil, or_false] at hq
  rcases hq with rfl | rfl | rfl | rfl | rfl | rfl | rfl | rfl | rfl <;> exact ⟨hA, hSs, hB2, hC, hR, hL, hK, hQ, hG, hM, hT⟩
theorem g_rests_y (hU : U < 7) (h31 : s.1 31 = nI U) {j : Nat} (hj : j < U) : g_rests U S N (nI j) s = some (if s.2.1 42 j = 0 ∨ s.2.1 42 j = 6 ∨ s.2.1 42 j = 7 then 1 else 0, s) := by
  unfold g_rests g_rests_39 g_rests_43 g_rests_44
  rw [isU_y h31 hU hj]
  simp only [Option.bind_some, o10, if_false, rA_y (show U < 2 ^ 31 by omega) hj]
  by_cases h0 : s.2.1 42 j = 0
  · simp only [h0, if_true, true_or]; rfl
  · by_cases h6 : s.2.1 42 j = 6
    · simp only [h0, h6, if_true, if_false, true_or, or_true]; rfl
    · by_cases h7 : s.2.1 42 j = 7
      · simp only [h0, h6, h7, if_true, if_false, not_true_eq_false, or_true]; rfl
      · simp only [h0, h6, h7, if_true, if_false, not_false_eq_true, or_false]; rfl
theorem g_rests_n (hU0 : 0 < U) (hU : U < 7) (h31 : s.1 31 = nI U) {x : Int32} (hx : x < 0 ∨ nI U ≤ x) : g_rests U S N x s = some (0, s) := by
  unfold g_rests g_rests_43 g_rests_44
  rw [isU_n h31 hU0 hU hx]
  rfl
def mvd (s : RS) (j : Nat) : Prop := s.1 67 ≠ 0 ∧ s.1 68 = nI j
theorem g_isMoved_y (H : Sim U S t s) (j : Nat) : (mvd s j ∧ g_isMoved U S N (nI j) s = some (1, s)) ∨ (¬ mvd s j ∧ g_isMoved U S N (nI j) s = some (0, s)) := by
  unfold g_isMoved g_isMoved_19 g_isMoved_20
  rcases H.2.2.2.2.2.2.1 with ⟨h1, h2, h3, h4⟩ | ⟨h0, u, k, hu, hk, h1, h2, h3, h4, h5⟩
  · rw [h1]
    exact Or.inr ⟨fun z => z.1 h1, rfl⟩
  · have hne : s.1 67 ≠ 0 := by rcases h0 with h | h | h | h <;> rw [h] <;> decide
    have hle : ¬ s.1 67 ≤ 0 := by rcases h0 with h | h | h | h <;> rw [h] <;> decide
    rw [if_neg hle]
    by_cases e : s.1 68 = nI j
    · rw [if_neg (not_not_intro e)]
      exact Or.inl ⟨⟨hne, e⟩, rfl⟩
    · rw [if_pos e]
      exact Or.inr ⟨fun z => e z.2, rfl⟩
theorem u_isMoving_y (hU : U < 7) (H : Sim U S t s) {j : Nat} (hj : j < U) : (mvd s j → u_X1_isMoving U S N (some j) t = some (1, t)) ∧ (¬ mvd s j → u_X1_isMoving U S N (some j) t = some (0, t)) := by
  unfold u_X1_isMoving u_X1_isMoving_19 u_X1_isMoving_20
  rw [show t.1 1 0 0 = s.1 67 from H.2.2.1 (1, 0, 67) (by decide)]
  rcases H.2.2.2.2.2.2.1 with ⟨h1, h2, h3, h4⟩ | ⟨h0, u, k, hu, hk, h1, h2, h3, h4, h5⟩
  · rw [h1]
    exact ⟨fun z => absurd h1 z.1, fun _ => rfl⟩
  · have hne : s.1 67 ≠ 0 := by rcases h0 with h | h | h | h <;> rw [h] <;> decide
    rw [if_neg hne, h1]
    simp only [vl_y hu, Option.bind_some]
    by_cases e : u = j
    · subst e
      refine ⟨fun _ => ?_, fun z => absurd ⟨hne, h2⟩ z⟩
      rw [if_neg (not_not_intro rfl)]
      rfl
    · have e2 : ¬ (some u = some j) := fun z => e (Option.some.inj z)
      refine ⟨fun z => ?_, fun _ => ?_⟩
      · have := z.2
        rw [h2] at this
        exact absurd ((eqI (by omega) (by omega)).mp this) e
      · rw [if_pos e2]
        rfl
/-- may the user be changed? -/
def mayc (s : RS) (j : Nat) : Prop := (s.2.1 42 j = 0 ∨ s.2.1 42 j = 6 ∨ s.2.1 42 j = 7) ∧ ¬ mvd s j
theorem u_mayChange_y (hU : U < 7) (H : Sim U S t s) {j : Nat} (hj : j < U) : (mayc s j → u_X2_mayChange U S N (some j) t = some (1, t)) ∧ (¬ mayc s j → u_X2_mayChange U S N (some j) t = some (0, t)) := by
  obtain ⟨m1, m2⟩ := u_isMoving_y (N := N) hU H hj
  unfold u_X2_mayChange u_X2_mayChange_14 u_X2_mayChange_29 u_X2_mayChange_30 u_X10_hasStopped u_X10_hasStopped_18 u_X10_hasStopped_23 mayc
  have e8 : t.1 10 j 8 = s.2.1 42 j := H.1 (8, 42) (by decide) j
  simp only [Option.bind_some, e8]
  generalize s.2.1 42 j = st
  by_cases hm : mvd s j
  · have m := m1 hm
    refine ⟨fun z => absurd hm z.2, fun _ => ?_⟩
    by_cases h0 : st = 0
    · subst h0; show (u_X1_isMoving U S N (some j) t).bind (fun q2 => if ¬ q2.1 = 0 then cZ 0 q2.2 else cZ 1 q2.2) = _; rw [m]; rfl
    · rw [if_neg h0]
      by_cases h6 : st = 6
      · subst h6; show (u_X1_isMoving U S N (some j) t).bind (fun q2 => if ¬ q2.1 = 0 then cZ 0 q2.2 else cZ 1 q2.2) = _; rw [m]; rfl
      · rw [if_neg h6]
        by_cases h7 : st = 7
        · subst h7; show (u_X1_isMoving U S N (some j) t).bind (fun q2 => if ¬ q2.1 = 0 then cZ 0 q2.2 else cZ 1 q2.2) = _; rw [m]; rfl
        · rw [if_pos h7]; rfl
  · have m := m2 hm
    by_cases h0 : st = 0
    · subst h0; exact ⟨fun _ => by show (u_X1_isMoving U S N (some j) t).bind (fun q2 => if ¬ q2.1 = 0 then cZ 0 q2.2 else cZ 1 q2.2) = _; rw [m]; rfl, fun z => absurd ⟨Or.inl rfl, hm⟩ z⟩
    · rw [if_neg h0]
      by_cases h6 : st = 6
      · subst h6; exact ⟨fun _ => by show (u_X1_isMoving U S N (some j) t).bind (fun q2 => if ¬ q2.1 = 0 then cZ 0 q2.2 else cZ 1 q2.2) = _; rw [m]; rfl, fun z => absurd ⟨Or.inr (Or.inl rfl), hm⟩ z⟩
      · rw [if_neg h6]
        by_cases h7 : st = 7
        · subst h7; exact ⟨fun _ => by show (u_X1_isMoving U S N (some j) t).bind (fun q2 => if ¬ q2.1 = 0 then cZ 0 q2.2 else cZ 1 q2.2) = _; rw [m]; rfl, fun z => absurd ⟨Or.inr (Or.inr rfl), hm⟩ z⟩
        · rw [if_pos h7]
          exact ⟨fun z => by rcases z.1 with h | h | h; exact absurd h h0; exact absurd h h6; exact absurd h h7, fun _ => rfl⟩
end
