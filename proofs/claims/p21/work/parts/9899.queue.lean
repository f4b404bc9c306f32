/-! LAYER 3, the queue -/
section
variable {U S N : Nat} {t : CS} {s : RS}
theorem Sim_Q (H : Sim U S t s) {t2 : CS} {s2 : RS} {qs : List Nat} (hQ : isQ U t2 s2 qs) (hn : t2.1 5 0 1 = s2.1 63) (f1 : ∀ ci j k, ¬ (ci = 5 ∧ j = 0 ∧ k = 1) → t2.1 ci j k = t.1 ci j k) (f2 : t2.2.1 = t.2.1) (f3 : t2.2.2.2.1 = t.2.2.2.1) (f4 : ∀ k, k ≠ 63 → s2.1 k = s.1 k) (f5 : ∀ k, k ≠ 62 → s2.2.1 k = s.2.1 k) (f6 : s2.2.2 = s.2.2) : Sim U S t2 s2 := by
  obtain ⟨hA, hSs, hB0, hC, hR, hL, hK, _, hG, hM, hT0⟩ := H
  have g1 : ∀ ci j k, ci ≠ 5 → t2.1 ci j k = t.1 ci j k := fun ci j k h => f1 ci j k (fun e => h e.1)
  refine ⟨?_, ?_, ?_, ?_, ?_, ?_, ?_, ⟨qs, hQ⟩, ?_, ?_, ?_⟩
  · intro p hp j
    have hne : p.2 ≠ 62 := by
      have : ∀ p, p ∈ mU → p.2 ≠ 62 := by decide
      exact this p hp
    rw [g1 _ _ _ (by decide), f5 _ hne, hA p hp j]
  · intro p hp j
    have hne : p.2 ≠ 62 := by
      have : ∀ p, p ∈ mS → p.2 ≠ 62 := by decide
      exact this p hp
    rw [g1 _ _ _ (by decide), f5 _ hne, hSs p hp j]
  · intro p hp
    have hne : p = (5, 1, 63) ∨ (¬ (p.1 = 5 ∧ (0 : Nat) = 0 ∧ p.2.1 = 1) ∧ p.2.2 ≠ 63) := by
      have : ∀ p, p ∈ mB → p = (5, 1, 63) ∨ (¬ (p.1 = 5 ∧ (0 : Nat) = 0 ∧ p.2.1 = 1) ∧ p.2.2 ≠ 63) := by decide
      exact this p hp
    rcases hne with rfl | ⟨h1, h2⟩
    · exact hn
    · rw [f1 _ _ _ h1, f4 _ h2, hB0 p hp]
  · intro p hp j i
    rw [f2, f6, hC p hp j i]
  · unfold SmR
    rw [f4 31 (by decide), f4 32 (by decide), f4 64 (by decide), f5 41 (by decide), f5 38 (by decide), f3]
    refine ⟨hR.1, fun j hj => ?_, fun j hj => ?_, hR.2.2.2⟩
    · rw [g1 _ _ _ (by decide)]; exact hR.2.1 j hj
    · rw [g1 _ _ _ (by decide)]; exact hR.2.2.1 j hj
  · unfold SmL
    rw [f4 65 (by decide), g1 _ _ _ (by decide), f3]
    exact hL
  · unfold SmK
    rw [f4 67 (by decide), f4 68 (by decide), f4 69 (by decide), f4 70 (by decide), g1 _ _ _ (by decide), f3]
    exact hK
  · intro j hj
    rw [g1 _ _ _ (by decide), g1 _ _ _ (by decide), g1 _ _ _ (by decide), g1 _ _ _ (by decide), f2, f5 50 (by decide), f5 53 (by decide), f6]
    exact hG j hj
  · unfold SmM
    rw [f3, f5 25 (by decide), f2]
    exact hM
  · unfold SmT
    rw [f4 1 (by decide), f5 0 (by decide), f2]
    exact hT0
/-- u becomes READY: it comes behind the queue, which has n -/
def rdC (t : CS) (u n : Nat) : CS := qI (qQ (qI t 10 u 8 1) n (some u)) 5 0 1 (nI (n + 1))
def rdR (s : RS) (u n : Nat) : RS := pI (pA (pA s 42 u 1) 62 n (nI u)) 63 (nI (n + 1))
theorem app_q {qs : List Nat} (hU : U < 7) (hQ : isQ U t s qs) {u : Nat} (hu : u < U) (hn : u ∉ qs) : qs.length < U := by
  have := nd_len U (u :: qs) (List.nodup_cons.mpr ⟨hn, hQ.1⟩) (fun j hj => by
    rcases List.mem_cons.mp hj with h | h
    · rw [h]; exact hu
    · exact hQ.2.1 j h)
  simp only [List.length_cons] at this
  omega
theorem Sim_rd (hU : U < 7) (H : Sim U S t s) {qs : List Nat} (hQ : isQ U t s qs) {u : Nat} (hu : u < U) (hn : u ∉ qs) : Sim U S (rdC t u qs.length) (rdR s u qs.length) ∧ isQ U (rdC t u qs.length) (rdR s u qs.length) (qs ++ [u]) := by
  have hQ2 : isQ U (rdC t u qs.length) (rdR s u qs.length) (qs ++ [u]) := by
    refine ⟨?_, ?_, ?_, ?_⟩
    · rw [List.nodup_append]
      exact ⟨hQ.1, by simp, fun a ha b hb e => by simp at hb; rw [e, hb] at ha; exact hn ha⟩
    · intro j hj
      rcases List.mem_append.mp hj with h | h
      · exact hQ.2.1 j h
      · simp at h; rw [h]; exact hu
    · rw [show (rdR s u qs.length).1 63 = nI (qs.length + 1) from rfl]
      simp
    · intro i j hi
      have e1 : (rdR s u qs.length).2.1 62 i = upd (s.2.1 62) qs.length (nI u) i := rfl
      rw [e1]
      show va_up t.2.2.2.2 qs.length (some u) i = some j ∧ _
      unfold va_up upd
      by_cases h : i = qs.length
      · subst h
        rw [List.getElem?_append_right (Nat.le_refl _), Nat.sub_self] at hi
        simp at hi
        subst hi
        rw [if_pos rfl, if_pos rfl]
        exact ⟨rfl, rfl⟩
      · rw [if_neg h, if_neg h]
        have hlt : i < qs.length := by
          have := (List.getElem?_eq_some_iff.mp hi).1
          simp at this
          omega
        rw [List.getElem?_append_left hlt] at hi
        exact hQ.2.2.2 i j hi
  refine ⟨?_, hQ2⟩
  refine Sim_Q (Sim_U H (q := (8, 42)) (by decide) u 1) hQ2 ?_ ?_ rfl rfl ?_ ?_ rfl
  · rfl
  · intro ci j k h
    show up3 _ 5 0 1 _ ci j k = _
    rw [up3_n _ _ h]
    rfl
  · intro k h
    show up1 _ 63 _ k = _
    rw [up1_n _ _ h]
    rfl
  · intro k h
    show up1 _ 62 _ k = _
    rw [up1_n _ _ h]
theorem rd_c (hU : U < 7) (H : Sim U S t s) {qs : List Nat} (hQ : isQ U t s qs) {u : Nat} (hu : u < U) (hn : u ∉ qs) : u_X2_makeReady U S N (some u) t = some ((), rdC t u qs.length) := by
  have hl := app_q hU hQ hu hn
  have ht : t.1 5 0 1 = nI qs.length := by rw [H.2.2.1 (5, 1, 63) (by decide)]; exact hQ.2.2.1
  unfold u_X2_makeReady u_X5_append u_X5_append_32
  simp only [Option.bind_some]
  rw [show (qI t 10 u 8 1).1 5 0 1 = nI qs.length from ht, if_neg (fun z => by have := (leI (by omega) (by omega)).mp z; omega)]
  unfold wU
  rw [if_neg (nI_in hl (by omega)), nI_clamp (by omega)]
  simp only [Option.bind_some]
  rw [show (qQ (qI t 10 u 8 1) qs.length (some u)).1 5 0 1 = nI qs.length from ht, nI_1]
  rfl
theorem rd_r (hU : U < 7) {qs : List Nat} (hQ : isQ U t s qs) {u : Nat} (hu : u < U) (hn : u ∉ qs) : g_becomesReady U S N (nI u) s = some ((), rdR s u qs.length) := by
  have hl := app_q hU hQ hu hn
  unfold g_becomesReady
  rw [wA_y (by omega) hu]
  simp only [Option.bind_some]
  rw [show (pA s 42 u 1).1 63 = nI qs.length from hQ.2.2.1, wA_y (by decide) (by omega)]
  simp only [Option.bind_some]
  rw [show (pA (pA s 42 u 1) 62 qs.length (nI u)).1 63 = nI qs.length from hQ.2.2.1, nI_1]
  rfl
end
