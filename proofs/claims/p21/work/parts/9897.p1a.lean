/-! LAYER 3, one call on fresh objects: set, deposit, begin, halt, key, fault -/
section
variable {U S N : Nat} {t : CS} {s : RS}
theorem al_set (hU0 : 0 < U) (hU : U < 7) (H : Sim U S t s) (x1 x2 : Int32) : ∃ x t2 s2, u_X11_set U S N x1 x2 t = some (x, t2) ∧ g_set U S N x1 x2 s = some (x, s2) ∧ Sim U S t2 s2 ∧ ((t2 = t ∧ s2 = s) ∨ ∃ j p, j < U ∧ p < 4096 ∧ t2 = qI t 10 j 13 (nI p) ∧ s2 = pA s 47 j (nI p)) := by
  have h31 := H.2.2.2.2.1.1.1
  unfold u_X11_set u_X11_set_20 g_set g_set_15
  rcases in_cases U (by omega) x1 with ⟨j, hj, rfl⟩ | hx
  · rw [isU_y h31 hU hj, usA_y hU hj]
    simp only [Option.bind_some, vl_y hj, reduceCtorEq, if_false, o10]
    rcases in_cases 4096 (by decide) x2 with ⟨p, hp, rfl⟩ | hy
    · rw [isW_y hp, cW_y hp]
      simp only [Option.bind_some, o10, not_false_eq_true, if_true]
      rw [wA_y (by omega) hj]
      exact ⟨1, _, _, rfl, rfl, Sim_U H (q := (13, 47)) (by decide) j (nI p), Or.inr ⟨j, p, hj, hp, rfl, rfl⟩⟩
    · rw [isW_n hy, cW_n hy]
      exact ⟨0, t, s, rfl, rfl, H, Or.inl ⟨rfl, rfl⟩⟩
  · rw [isU_n h31 hU0 hU hx, usA_n hU0 hU hx]
    exact ⟨0, t, s, rfl, rfl, H, Or.inl ⟨rfl, rfl⟩⟩
theorem al_deposit (hU0 : 0 < U) (hU : U < 7) (hS0 : 0 < S) (hS : S < 5) (H : Sim U S t s) (x1 x2 x3 : Int32) : ∃ x t2 s2, u_X11_deposit U S N x1 x2 x3 t = some (x, t2) ∧ g_deposit U S N x1 x2 x3 s = some (x, s2) ∧ Sim U S t2 s2 ∧ ((t2 = t ∧ s2 = s) ∨ (∃ j a v, j < U ∧ a < 4096 ∧ v < 4096 ∧ t2 = qA t 10 j 1 a (nI v) ∧ s2 = pG s 36 j a (nI v)) ∨ (∃ k a v, k < S ∧ a < 4096 ∧ v < 4096 ∧ t2 = qI (qA t 8 k 1 a (nI v)) 8 k 3 1 ∧ s2 = pA (pG s 35 k a (nI v)) 39 k 1 ∧ ∃ j, j < U ∧ t.2.2.2.1 10 j 19 = some k)) := by
  have h31 := H.2.2.2.2.1.1.1
  unfold u_X11_deposit u_X11_deposit_41 g_deposit g_deposit_30 g_deposit_61
  rcases in_cases U (by omega) x1 with ⟨j, hj, rfl⟩ | hx
  · obtain ⟨m1, m2⟩ := u_mayChange_y (N := N) hU H hj
    rw [g_rests_y hU h31 hj, usA_y hU hj]
    simp only [Option.bind_some, vl_y hj, reduceCtorEq, if_false]
    rcases in_cases 4096 (by decide) x2 with ⟨a, ha, rfl⟩ | hy
    · rcases in_cases 4096 (by decide) x3 with ⟨v, hv, rfl⟩ | hz
      · rw [cW_y ha]
        simp only [Option.bind_some, o10, if_false]
        rw [cW_y hv]
        simp only [Option.bind_some, o10, if_false]
        by_cases hm : mayc s j
        · rw [m1 hm, if_pos hm.1]
          simp only [Option.bind_some, o10, if_false, not_false_eq_true, if_true]
          rcases g_isMoved_y (N := N) H j with ⟨h, _⟩ | ⟨_, h⟩
          · exact absurd h hm.2
          · rw [h]
            simp only [Option.bind_some, not_true_eq_false, if_false]
            rw [isW_y ha]
            simp only [Option.bind_some, o10, if_false]
            rw [isW_y hv]
            simp only [Option.bind_some, o10, not_false_eq_true, if_true]
            rw [rA_y (by omega) hj]
            obtain ⟨h0, h1, h2⟩ := H.2.2.2.2.1.2.1 j hj
            unfold u_X10_store u_X10_store_30
            simp only [Option.bind_some]
            rw [h1]
            cases ho : t.2.2.2.1 10 j 19 with
            | none =>
              simp only [vl_0, Option.bind_some, not_true_eq_false, if_false, rf]
              rw [and4095 ha, wH_y (by decide) ha, rQ_y (by omega) hj]
              simp only [Option.bind_some]
              rw [wG_y (by decide) ha]
              exact ⟨1, _, _, rfl, rfl, Sim_C H (q := (10, 1, 36)) (by decide) j a (nI v), Or.inr (Or.inl ⟨j, a, v, hj, ha, hv, rfl, rfl⟩)⟩
            | some k =>
              have hk : k < S := h2 k ho
              simp only [vl_y hk, Option.bind_some, reduceCtorEq, not_false_eq_true, if_true, rf]
              simp only [show ¬ nI k = -1 from nI_ne (by omega), not_false_eq_true, if_true]
              unfold u_X8_put g_store
              rw [and4095 ha, wH_y (by decide) ha, rA_y (by omega) hj, h1, ho]
              simp only [Option.bind_some, rf]
              rw [rQ_y (by omega) hk]
              simp only [Option.bind_some]
              rw [and4095 hv, wG_y (by decide) ha]
              simp only [Option.bind_some]
              rw [rA_y (by omega) hj, show (pG s 35 k a (nI v)).2.1 41 j = rf (t.2.2.2.1 10 j 19) from h1, ho]
              simp only [Option.bind_some, rf]
              rw [wZ_y (by omega) hk _ _ (Or.inr rfl)]
              exact ⟨1, _, _, rfl, rfl, Sim_S (Sim_C H (q := (8, 1, 35)) (by decide) k a (nI v)) (q := (3, 39)) (by decide) k 1, Or.inr (Or.inr ⟨k, a, v, hk, ha, hv, rfl, rfl, j, hj, ho⟩)⟩
        · rw [m2 hm]
          by_cases hr : s.2.1 42 j = 0 ∨ s.2.1 42 j = 6 ∨ s.2.1 42 j = 7
          · rw [if_pos hr]
            simp only [Option.bind_some, o10, if_false]
            rcases g_isMoved_y (N := N) H j with ⟨_, h⟩ | ⟨h, _⟩
            · rw [h]; exact ⟨0, t, s, rfl, rfl, H, Or.inl ⟨rfl, rfl⟩⟩
            · exact absurd ⟨hr, h⟩ hm
          · rw [if_neg hr]; exact ⟨0, t, s, rfl, rfl, H, Or.inl ⟨rfl, rfl⟩⟩
      · rw [cW_y ha]
        simp only [Option.bind_some, o10, if_false]
        rw [cW_n hz]
        simp only [Option.bind_some, if_true]
        refine ⟨0, t, s, rfl, ?_, H, Or.inl ⟨rfl, rfl⟩⟩
        by_cases hr : s.2.1 42 j = 0 ∨ s.2.1 42 j = 6 ∨ s.2.1 42 j = 7
        · rw [if_pos hr]
          simp only [o10, if_false]
          rcases g_isMoved_y (N := N) H j with ⟨_, h⟩ | ⟨_, h⟩
          · rw [h]; rfl
          · rw [h]
            simp only [Option.bind_some, not_true_eq_false, if_false]
            rw [isW_y ha]
            simp only [Option.bind_some, o10, if_false]
            rw [isW_n hz]
            rfl
        · rw [if_neg hr]; rfl
    · rw [cW_n hy]
      simp only [Option.bind_some, if_true]
      refine ⟨0, t, s, rfl, ?_, H, Or.inl ⟨rfl, rfl⟩⟩
      by_cases hr : s.2.1 42 j = 0 ∨ s.2.1 42 j = 6 ∨ s.2.1 42 j = 7
      · rw [if_pos hr]
        simp only [o10, if_false]
        rcases g_isMoved_y (N := N) H j with ⟨_, h⟩ | ⟨_, h⟩
        · rw [h]; rfl
        · rw [h]
          simp only [Option.bind_some, not_true_eq_false, if_false]
          rw [isW_n hy]
          rfl
      · rw [if_neg hr]; rfl
  · rw [g_rests_n hU0 hU h31 hx, usA_n hU0 hU hx]
    exact ⟨0, t, s, rfl, rfl, H, Or.inl ⟨rfl, rfl⟩⟩
theorem em_begin (hU0 : 0 < U) (hU : U < 7) (H : Sim U S t s) (hz : ∀ j, j < U → s.2.1 42 j = 0) (x1 x2 : Int32) : Agr (u_X11_begin U S N x1 x2 t) (g_begin U S N x1 x2 s) := by
  have h31 := H.2.2.2.2.1.1.1
  unfold u_X11_begin u_X11_begin_27 g_begin g_begin_24
  rcases in_cases U (by omega) x1 with ⟨j, hj, rfl⟩ | hx
  · rw [g_rests_y hU h31 hj, usA_y hU hj, hz j hj]
    simp only [Option.bind_some, vl_y hj, reduceCtorEq, if_false, true_or, if_true, o10, rA_y (show U < 2 ^ 31 by omega) hj, hz j hj]
    unfold u_X10_hasStopped u_X10_hasStopped_23
    have e8 : t.1 10 j 8 = 0 := by rw [H.1 (8, 42) (by decide) j]; exact hz j hj
    rcases in_cases 4096 (by decide) x2 with ⟨p, hp, rfl⟩ | hy
    · rw [cW_y hp]
      simp only [Option.bind_some, o10, if_false, e8]
      exact agr rfl rfl
    · rw [cW_n hy]
      exact agr rfl rfl
  · rw [g_rests_n hU0 hU h31 hx, usA_n hU0 hU hx]
    exact agr rfl rfl
theorem em_halt (hU0 : 0 < U) (hU : U < 7) (H : Sim U S t s) (hz : ∀ j, j < U → s.2.1 42 j = 0) (x1 : Int32) : Agr (u_X11_halt U S N x1 t) (g_halt U S N x1 s) := by
  have h31 := H.2.2.2.2.1.1.1
  unfold u_X11_halt u_X11_halt_20 g_halt g_halt_22
  rcases in_cases U (by omega) x1 with ⟨j, hj, rfl⟩ | hx
  · rw [isU_y h31 hU hj, usA_y hU hj]
    have e8 : t.1 10 j 8 = 0 := by rw [H.1 (8, 42) (by decide) j]; exact hz j hj
    unfold u_X10_mayBeHalted u_X10_mayBeHalted_37
    simp only [Option.bind_some, vl_y hj, reduceCtorEq, if_false, o10, rA_y (show U < 2 ^ 31 by omega) hj, hz j hj, e8]
    rw [g_in_eq]
    exact agr rfl rfl
  · rw [isU_n h31 hU0 hU hx, usA_n hU0 hU hx]
    exact agr rfl rfl
theorem em_fault (h : t.1 0 0 4 = s.1 7 ∧ t.1 0 0 5 = s.1 8) (x1 : Int32) : Agr (u_X11_fault U S N x1 t) (g_fault U S N x1 s) := by
  unfold u_X11_fault g_fault g_fault_24
  by_cases h0 : x1 = 0
  · subst h0
    exact ⟨_, _, rfl, rfl, h.1⟩
  · by_cases h1 : x1 = 1
    · subst h1
      exact ⟨_, _, rfl, rfl, h.2⟩
    · simp only [h0, h1, not_false_eq_true, if_true, if_false]
      exact agr rfl rfl
end
