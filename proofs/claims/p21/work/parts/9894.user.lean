/-! LAYER 3, user(u, what): alike -/
section
variable {U S N : Nat} {t : CS} {s : RS}
theorem rU_y {n i : Nat} (hn : n < 2 ^ 31) (hi : i < n) (t : CS) : rU n t (nI i) = some (t.2.2.2.2 i) := by
  unfold rU
  rw [if_neg (nI_in hi hn), nI_clamp (by omega)]
theorem pl_q {n j : Nat} (hU : U < 7) (hn : n ≤ U) (hq : s.1 63 = nI n) (ht : t.1 5 0 1 = nI n) (hQ : ∀ i, i < n → ∃ j, j < U ∧ t.2.2.2.2 i = some j ∧ s.2.1 62 i = nI j) (hj : j < U) : ∀ (m i : Nat), n < i + m → i ≤ n → ∃ x, ul_X5_placeOf_2 U S N m (some j) (nI i) t = some (x, t) ∧ l_user_156 U S N m (nI j) (nI i) s = some (x, s) := by
  intro m
  induction m with
  | zero => intro i h1 h2; omega
  | succ m ih =>
    intro i h1 h2
    show ∃ x, uh_X5_placeOf_2 U S N (ul_X5_placeOf_2 U S N m) (some j) (nI i) t = some (x, t) ∧ h_user_156 U S N (l_user_156 U S N m) (nI j) (nI i) s = some (x, s)
    unfold uh_X5_placeOf_2 h_user_156
    rw [hq, ht]
    by_cases hi : n ≤ i
    · rw [if_pos ((leI (by omega) (by omega)).mpr hi), if_pos ((leI (by omega) (by omega)).mpr hi)]
      exact ⟨_, rfl, rfl⟩
    · rw [if_neg (fun z => hi ((leI (by omega) (by omega)).mp z)), if_neg (fun z => hi ((leI (by omega) (by omega)).mp z))]
      obtain ⟨k, hk, h3, h4⟩ := hQ i (by omega)
      rw [rU_y (by omega) (by omega), rA_y (by decide) (by omega), h3, h4]
      simp only [Option.bind_some, vl_y hk]
      by_cases hkj : k = j
      · subst hkj
        rw [if_neg (not_not_intro rfl), if_neg (not_not_intro rfl)]
        exact ⟨_, rfl, rfl⟩
      · rw [if_pos (fun z => hkj (Option.some.inj z)), if_pos (fun z => hkj ((eqI (by omega) (by omega)).mp z)), nI_1]
        exact ih (i + 1) (by omega) (by omega)
theorem ro_user (hU0 : 0 < U) (hU : U < 7) (hS0 : 0 < S) (hS : S < 5) (hN : 100 < N) (H : Sim U S t s) (x1 x2 : Int32) : RO (u_X11_user U S N x1 x2 t) (g_user U S N x1 x2 s) t s := by
  obtain ⟨hA, hSs, hB, hC, hR, hL, hK, hQ, hG, hM, hT⟩ := H
  unfold u_X11_user u_X11_user_70 u_X11_user_105 g_user g_user_218 g_user_235
  rcases in_cases U (by omega) x1 with ⟨j, hj, rfl⟩ | hx
  · rw [isU_y hR.1.1 hU hj, usA_y hU hj]
    simp only [Option.bind_some, vl_y hj, reduceCtorEq, not_false_eq_true, if_true, o10, rA_y (show U < 2 ^ 31 by omega) hj]
    unfold u_X10_register u_X10_register_149 u_X10_register_150
    obtain ⟨h0, h1, h2⟩ := hR.2.1 j hj
    by_cases c0 : x2 = 0
    · subst c0
      simp (decide := true) only [if_true, if_false]
      exact ⟨_, rfl, by rw [hA (8, 42) (by decide) j]⟩
    by_cases c1 : x2 = 1
    · subst c1
      simp (decide := true) only [if_true, if_false]
      exact ⟨_, rfl, by rw [hA (9, 45) (by decide) j]⟩
    by_cases c2 : x2 = 2
    · subst c2
      simp (decide := true) only [if_true, if_false]
      exact ⟨_, rfl, by rw [hA (10, 43) (by decide) j]⟩
    by_cases c3 : x2 = 3
    · subst c3
      simp (decide := true) only [if_true, if_false]
      exact ⟨_, rfl, by rw [hA (11, 46) (by decide) j]⟩
    by_cases c4 : x2 = 4
    · subst c4
      simp (decide := true) only [if_true, if_false]
      exact ⟨_, rfl, by rw [hA (12, 44) (by decide) j]⟩
    by_cases c5 : x2 = 5
    · subst c5
      simp (decide := true) only [if_true, if_false]
      exact ⟨_, rfl, by rw [hA (14, 48) (by decide) j]⟩
    by_cases c6 : x2 = 6
    · subst c6
      simp (decide := true) only [if_true, if_false]
      obtain ⟨F, M, hF, hM, e1, e2, e3, e4⟩ := (hG j hj).1
      exact ⟨_, rfl, by rw [e2, e3]⟩
    by_cases c7 : x2 = 7
    · subst c7
      simp (decide := true) only [if_true, if_false]
      obtain ⟨F, M, hF, hM, e1, e2, e3, e4⟩ := (hG j hj).2
      exact ⟨_, rfl, by rw [e2, e3]⟩
    by_cases c8 : x2 = 8
    · subst c8
      simp (decide := true) only [if_true, if_false]
      exact ⟨_, rfl, by rw [hA (6, 55) (by decide) j]⟩
    by_cases c9 : x2 = 9
    · subst c9
      simp (decide := true) only [if_true, if_false]
      rw [h1]
      cases ho : t.2.2.2.1 10 j 19 with
      | none => exact ⟨_, rfl, rfl⟩
      | some k =>
        have hk : k < S := h2 k ho
        simp only [vl_y hk, Option.bind_some, reduceCtorEq, not_false_eq_true, if_true]
        exact ⟨_, rfl, by rw [(hR.2.2.1 k hk).1]; rfl⟩
    by_cases c10 : x2 = 10
    · subst c10
      simp (decide := true) only [if_true, if_false]
      obtain ⟨qs, hnd, hlt, hq, hq2⟩ := hQ
      have hn := nd_len U qs hnd hlt
      generalize hnn : qs.length = n at hq hn
      have hq2 : ∀ i, i < n → ∃ j, j < U ∧ t.2.2.2.2 i = some j ∧ s.2.1 62 i = nI j := fun i hi => by
        have hi2 : i < qs.length := by omega
        exact ⟨qs[i], hlt _ (List.getElem_mem hi2), hq2 i qs[i] (List.getElem?_eq_getElem hi2)⟩
      have ht : t.1 5 0 1 = nI n := by rw [hB (5, 1, 63) (by decide)]; exact hq
      obtain ⟨x, e1, e2⟩ := pl_q (S := S) (N := N) hU hn hq ht hq2 hj N 0 (by omega) (by omega)
      unfold u_X5_placeOf
      rw [show (0 : Int32) = nI 0 from rfl, e1, e2]
      exact ⟨x, rfl, rfl⟩
    by_cases c11 : x2 = 11
    · subst c11
      simp (decide := true) only [if_true, if_false]
      exact ⟨_, rfl, by rw [hA (15, 51) (by decide) j]⟩
    by_cases c12 : x2 = 12
    · subst c12
      simp (decide := true) only [if_true, if_false]
      exact ⟨_, rfl, by rw [hA (13, 47) (by decide) j]⟩
    by_cases c13 : x2 = 13
    · subst c13
      simp (decide := true) only [if_true, if_false]
      rw [hA (8, 42) (by decide) j]
      by_cases d : s.2.1 42 j = 4
      · rw [if_neg (not_not_intro d), if_neg (not_not_intro d)]
        exact ⟨_, rfl, by rw [hA (16, 57) (by decide) j]⟩
      · rw [if_pos d, if_pos d]
        exact ⟨_, rfl, rfl⟩
    by_cases c14 : x2 = 14
    · subst c14
      simp (decide := true) only [if_true, if_false]
      rw [hR.2.2.2.1]
      cases ho : t.2.2.2.1 2 0 8 with
      | none =>
        simp only [vl_0, Option.bind_some, reduceCtorEq, not_false_eq_true, if_true, rf]
        simp only [show ¬ (-1 : Int32) = nI j from fun e => nI_ne (j := j) (by omega) e.symm, not_false_eq_true, if_true]
        exact ⟨_, rfl, rfl⟩
      | some k =>
        have hk : k < U := hR.2.2.2.2 k ho
        have hl : t.1 2 0 9 = s.1 65 := hL (by rw [ho]; simp)
        simp only [vl_y hk, Option.bind_some, rf, hl]
        by_cases e : k = j
        · subst e
          simp only [not_true_eq_false, if_false]
          exact ⟨_, rfl, rfl⟩
        · simp only [show ¬ nI k = nI j from fun z => e ((eqI (by omega) (by omega)).mp z), Option.some.injEq, e, not_false_eq_true, if_true]
          exact ⟨_, rfl, rfl⟩
    simp only [c0, c1, c2, c3, c4, c5, c6, c7, c8, c9, c10, c11, c12, c13, c14, if_false]
    exact ⟨_, rfl, rfl⟩
  · rw [isU_n hR.1.1 hU0 hU hx, usA_n hU0 hU hx]
    exact ⟨_, rfl, rfl⟩
end
