/-! LAYER 3, the house: the channel's task ends -/
section
variable {U S N : Nat} {t : CS} {s : RS} {qs : List Nat} {T B D : Nat} {P : Nat → Nat}
def clC (t : CS) : CS := qI (qR (qR (qI t 1 0 0 0) 1 0 1 none) 1 0 2 none) 1 0 3 0
theorem cl_c (t : CS) : u_X1_clear U S N t = some ((), clC t) := rfl
theorem Sim_cl (H : Sim U S t s) : Sim U S (clC t) (pI s 67 0) := by
  obtain ⟨hA, hSs, hB, hC, hR, hL, hK, hQ, hG, hM, hT⟩ := H
  refine ⟨hA, hSs, ?_, hC, hR, hL, Or.inl ⟨rfl, rfl, rfl, rfl⟩, hQ, hG, hM, hT⟩
  intro p hp
  simp only [mB, List.mem_cons, List.not_mem_nil, or_false] at hp
  rcases hp with rfl | rfl | rfl | rfl | rfl | rfl | rfl | rfl | rfl | rfl | rfl | rfl <;> first | exact hB _ (by decide) | rfl
theorem HJ_cl {R : Rf} {v w : Nat → Int32} (h : HJ U S R v w s qs T B P D) (D2 : Nat) : HJ U S (up3 (up3 R 1 0 1 none) 1 0 2 none) v w (pI s 67 0) qs T B P D2 := by
  obtain ⟨hW, hT, hB, hX, hS, hQ, hR, hO⟩ := h
  refine ⟨hW, hT, hB, hX, hS, hQ, hR, ?_⟩
  intro _ u k e1 _
  exact absurd (show (none : Option Nat) = some u from e1) (by simp)
theorem qR_comm (t : CS) (k u : Nat) (a b : Option Nat) : qR (qR t 8 k 2 a) 10 u 19 b = qR (qR t 10 u 19 b) 8 k 2 a := by
  unfold qR
  dsimp only
  congr 4
  funext x y z
  unfold up3
  repeat' split
  all_goals first | rfl | (exfalso; omega)
theorem HJ_gv {R : Rf} {v w : Nat → Int32} (h : HJ U S R v w s qs T B P 2) {u k : Nat} (hu : u < U) (hk : k < S) (h1 : R 10 u 19 = none) (h2 : R 8 k 2 = none) : HJ U S (up3 (up3 R 10 u 19 (some k)) 8 k 2 (some u)) v w (pA (pA (pA (pA s 41 u (nI k)) 38 k (nI u)) 39 k 0) 40 k 0) qs T B P 2 := by
  obtain ⟨hW, hT, hB, hX, hS, hQ, hR, hO⟩ := h
  have g10 : ∀ j, j ≠ u → up3 (up3 R 10 u 19 (some k)) 8 k 2 (some u) 10 j 19 = R 10 j 19 := by
    intro j hj
    rw [up3_n _ _ (fun e => absurd e.1 (by decide)), up3_n _ _ (fun e => hj e.2.1)]
  have g10u : up3 (up3 R 10 u 19 (some k)) 8 k 2 (some u) 10 u 19 = some k := by
    rw [up3_n _ _ (fun e => absurd e.1 (by decide)), up3_s]
  have g8 : ∀ j, j ≠ k → up3 (up3 R 10 u 19 (some k)) 8 k 2 (some u) 8 j 2 = R 8 j 2 := by
    intro j hj
    rw [up3_n _ _ (fun e => hj e.2.1), up3_n _ _ (fun e => absurd e.1 (by decide))]
  have g8k : up3 (up3 R 10 u 19 (some k)) 8 k 2 (some u) 8 k 2 = some u := by rw [up3_s]
  refine ⟨hW, hT, ?_, hX, ⟨?_, ?_⟩, hQ, ?_, fun z => absurd z (by decide)⟩
  · intro j hj e
    obtain ⟨a, b⟩ := hB j hj e
    refine ⟨?_, b⟩
    by_cases hju : j = u
    · subst hju; rw [g10u]; simp
    · rw [g10 j hju]; exact a
  · intro u2 k2 hu2 hk2
    by_cases eu : u2 = u
    · subst eu
      rw [g10u]
      by_cases ek : k2 = k
      · subst ek; rw [g8k]; simp
      · rw [g8 _ ek]
        constructor
        · intro z; exact absurd (Option.some.inj z).symm ek
        · intro z
          have := (hS.1 u2 k2 hu2 hk2).mpr z
          rw [h1] at this
          cases this
    · rw [g10 _ eu]
      by_cases ek : k2 = k
      · subst ek; rw [g8k]
        constructor
        · intro z
          have := (hS.1 u2 k2 hu2 hk2).mp z
          rw [h2] at this
          cases this
        · intro z; exact absurd (Option.some.inj z).symm eu
      · rw [g8 _ ek]; exact hS.1 u2 k2 hu2 hk2
  · intro j hj e
    by_cases ek : j = k
    · subst ek; rw [g8k] at e; cases e
    · rw [g8 _ ek] at e
      have := hS.2 j hj e
      refine ⟨?_, ?_⟩
      · show upd (s.2.1 39) k 0 j = 0
        rw [upd_n _ _ ek]; exact this.1
      · show upd (s.2.1 40) k 0 j = 0
        rw [upd_n _ _ ek]; exact this.2
  · intro u2 hu2
    obtain ⟨c1, c2, c3⟩ := hR u2 hu2
    refine ⟨c1, c2, ?_⟩
    by_cases eu : u2 = u
    · subst eu; rw [g10u]; simp
    · rw [g10 _ eu]; exact c3
theorem fb_c {u k : Nat} : u_X2_finishBlock U S N (some u) (some k) t = (u_X2_makeReady U S N (some u) (qI (qI (qI (qI (qI (qI t 1 0 4 1) 1 0 7 (t.1 1 0 7 + 1)) 10 u 10 0) 10 u 14 (t.1 10 u 14 + 1)) 2 0 11 (t.1 2 0 11 + 1)) 8 k 4 1)).bind fun q => some ((), q.2) := by
  unfold u_X2_finishBlock qZ
  simp only [Option.bind_some, or_true, if_true]
  rw [show (qI (qI (qI t 1 0 4 1) 1 0 7 ((qI t 1 0 4 1).1 1 0 7 + 1)) 10 u 10 0).1 10 u 14 = t.1 10 u 14 by show up3 _ 10 u 10 0 10 u 14 = _; rw [up3_n _ _ (fun e => absurd e.2.2 (by decide))]; rfl]
  rfl
theorem al_end_task (hU : U < 7) (hS5 : S < 5) (h : Inv U S t s qs T B P 1) {u k : Nat} (hu : u < U) (hk : k < S) (c1 : t.2.2.2.1 1 0 1 = some u) (c2 : t.2.2.2.1 1 0 2 = some k) (h69 : s.1 69 = nI k) : ∃ t2 s2 qs2, u_X2_finishTask U S N (some u) (some k) t = some ((), t2) ∧ g_ends U S N (nI u) s = some ((), s2) ∧ Inv U S t2 s2 qs2 T B P 0 ∧ s2.1 67 = 0 := by
  obtain ⟨H, hQ, hJ⟩ := id h
  have htask : t.1 1 0 0 = s.1 67 := H.2.2.1 (1, 0, 67) (by decide)
  unfold u_X2_finishTask u_X2_finishTask_86 g_ends g_ends_144 g_ends_158 qZ pZ
  simp only [reduceCtorEq, if_false, not_false_eq_true, if_true, true_or, or_true, Option.bind_some]
  rw [show (qI t 1 0 4 0).1 1 0 0 = s.1 67 from htask]
  rcases hJ.2.2.2.2.2.2.2 (by decide) u k c1 c2 with ⟨d1, d2, d3, d4, -⟩ | ⟨d1, d2, d3, -⟩ | ⟨d1, d2, d3, -⟩
  · have ho : t.2.2.2.1 8 k 2 = some u := (hJ.2.2.2.2.1.1 u k hu hk).mp d2
    rw [d1, if_neg (not_not_intro rfl), if_neg (not_not_intro rfl), h69, rl_c (t := qI t 1 0 4 0) hu ho, rl_r hU hS5 hu hk (by rw [(H.2.2.2.2.1.2.2.1 k hk).2.1, ho]; rfl)]
    simp only [Option.bind_some]
    rw [show (pI (rlR s u k) 72 ((rlR s u k).1 72 + 1)).1 67 = 1 from d1, if_pos (by decide), cl_c]
    simp only [Option.bind_some]
    have k1 := Sim_cl (Sim_B (Sim_rl (Sim_B H (q := (1, 4, 77)) (by decide) 0) u k) (q := (1, 6, 72)) (by decide) (s.1 72 + 1))
    have e1 : (rlC (qI t 1 0 4 0) u k).1 1 0 6 = s.1 72 := H.2.2.1 (1, 6, 72) (by decide)
    have er : pI (pI (pI (rlR s u k) 72 ((rlR s u k).1 72 + 1)) 77 0) 67 0 = pI (pI (rlR (pI s 77 0) u k) 72 (s.1 72 + 1)) 67 0 := by
      rw [pI_comm _ (show (72 : Nat) ≠ 77 by decide)]
      rfl
    refine ⟨_, _, qs, rfl, rfl, ⟨?_, ?_, ?_⟩, rfl⟩
    · rw [e1, er]; exact k1
    · exact hQ
    · exact HJ_cl (HJ_rl (HJ_2 hJ) hu hk d2 d4 d3 (fun z => absurd z (by decide))) 0
  · rw [d1, if_pos (by decide), if_neg (not_not_intro rfl), if_pos (by decide), if_neg (not_not_intro rfl), h69]
    rw [wA_y (by omega) hu]
    simp only [Option.bind_some]
    rw [show (pA s 41 u (nI k)).1 69 = nI k from h69, wA_y (by omega) hk]
    simp only [Option.bind_some]
    rw [show (pA (pA s 41 u (nI k)) 38 k (nI u)).1 69 = nI k from h69, wZ_y (by omega) hk _ _ (Or.inl rfl)]
    simp only [Option.bind_some]
    rw [show (pA (pA (pA s 41 u (nI k)) 38 k (nI u)) 39 k 0).1 69 = nI k from h69, wZ_y (by omega) hk _ _ (Or.inl rfl)]
    simp only [Option.bind_some]
    unfold u_X8_give qZ
    simp only [Option.bind_some, true_or, if_true]
    rw [qR_comm, show (pI (pA (pA (pA (pA s 41 u (nI k)) 38 k (nI u)) 39 k 0) 40 k 0) 71 ((pA (pA (pA (pA s 41 u (nI k)) 38 k (nI u)) 39 k 0) 40 k 0).1 71 + 1)).1 67 = 2 from d1, if_pos (by decide), cl_c]
    simp only [Option.bind_some]
    have k0 := Sim_S (Sim_S (Sim_ref (Sim_B H (q := (1, 4, 77)) (by decide) 0) (u := u) (k := k) (some k) (some u) (vd_s hk) (vd_s hu)) (q := (3, 39)) (by decide) k 0) (q := (4, 40)) (by decide) k 0
    have k1 := Sim_cl (Sim_B k0 (q := (1, 5, 71)) (by decide) (s.1 71 + 1))
    have e1 : (qI (qI (qR (qR (qI t 1 0 4 0) 10 u 19 (some k)) 8 k 2 (some u)) 8 k 3 0) 8 k 4 0).1 1 0 5 = s.1 71 := H.2.2.1 (1, 5, 71) (by decide)
    have er : pI (pI (pI (pA (pA (pA (pA s 41 u (nI k)) 38 k (nI u)) 39 k 0) 40 k 0) 71 ((pA (pA (pA (pA s 41 u (nI k)) 38 k (nI u)) 39 k 0) 40 k 0).1 71 + 1)) 77 0) 67 0 = pI (pI (pA (pA (pA (pA (pI s 77 0) 41 u (nI k)) 38 k (nI u)) 39 k 0) 40 k 0) 71 (s.1 71 + 1)) 67 0 := by
      rw [pI_comm _ (show (71 : Nat) ≠ 77 by decide)]
      rfl
    refine ⟨_, _, qs, rfl, rfl, ⟨?_, ?_, ?_⟩, rfl⟩
    · rw [e1, er]; exact k1
    · exact hQ
    · exact HJ_cl (HJ_gv (HJ_2 hJ) hu hk d2 d3) 0
  · have n1 : ¬ s.1 67 = 1 := by rcases d1 with q | q <;> rw [q] <;> decide
    have n2 : ¬ s.1 67 = 2 := by rcases d1 with q | q <;> rw [q] <;> decide
    have n3 : ¬ s.1 67 ≤ 2 := by rcases d1 with q | q <;> rw [q] <;> decide
    have h41 : s.2.1 41 u = nI k := by rw [(H.2.2.2.2.1.2.1 u hu).2.1, d3]; rfl
    have hn : u ∉ qs := fun z => by have := hJ.2.2.2.2.2.1 u z; rw [d2] at this; exact absurd this (by decide)
    have h1 : s.2.1 42 u ≠ 1 := by rw [d2]; decide
    have hr : t.2.2.2.1 2 0 8 ≠ some u := fun z => h1 (hJ.2.2.2.2.2.2.1 u z).2.1
    rw [if_pos n1, if_pos n2, if_pos n1, if_pos n2, fb_c, wA_y (by omega) hu]
    simp only [Option.bind_some]
    rw [rA_y (by omega) hu]
    simp only [Option.bind_some]
    rw [wA_y (by omega) hu]
    simp only [Option.bind_some]
    rw [rA_y (by omega) hu, show (pI (pI (pA (pA s 43 u 0) 48 u ((pA s 43 u 0).2.1 48 u + 1)) 75 ((pA (pA s 43 u 0) 48 u ((pA s 43 u 0).2.1 48 u + 1)).1 75 + 1)) 73 ((pI (pA (pA s 43 u 0) 48 u ((pA s 43 u 0).2.1 48 u + 1)) 75 ((pA (pA s 43 u 0) 48 u ((pA s 43 u 0).2.1 48 u + 1)).1 75 + 1)).1 73 + 1)).2.1 41 u = nI k from h41]
    simp only [Option.bind_some]
    rw [wZ_y (by omega) hk _ _ (Or.inr rfl)]
    simp only [Option.bind_some]
    rw [show qI (qI t 1 0 4 0) 1 0 4 1 = qI t 1 0 4 1 by unfold qI; dsimp only; rw [up3_up3], show (qI t 1 0 4 0).1 1 0 7 = s.1 73 from H.2.2.1 (1, 7, 73) (by decide), show (qI t 1 0 4 0).1 10 u 14 = s.2.1 48 u from H.1 (14, 48) (by decide) u, show (qI t 1 0 4 0).1 2 0 11 = s.1 75 from H.2.2.1 (2, 11, 75) (by decide)]
    have k0 := Sim_S (Sim_B (Sim_U (Sim_U (Sim_B (Sim_B H (q := (1, 4, 77)) (by decide) 1) (q := (1, 7, 73)) (by decide) (s.1 73 + 1)) (q := (10, 43)) (by decide) u 0) (q := (14, 48)) (by decide) u (s.2.1 48 u + 1)) (q := (2, 11, 75)) (by decide) (s.1 75 + 1)) (q := (4, 40)) (by decide) k 1
    have q0 : isQ U (qI (qI (qI (qI (qI (qI t 1 0 4 1) 1 0 7 (s.1 73 + 1)) 10 u 10 0) 10 u 14 (s.2.1 48 u + 1)) 2 0 11 (s.1 75 + 1)) 8 k 4 1) (pA (pI (pA (pA (pI (pI s 77 1) 73 (s.1 73 + 1)) 43 u 0) 48 u (s.2.1 48 u + 1)) 75 (s.1 75 + 1)) 40 k 1) qs := hQ
    have q1 : isQ U t (pA (pI (pI (pA (pA s 43 u 0) 48 u (s.2.1 48 u + 1)) 75 (s.1 75 + 1)) 73 (s.1 73 + 1)) 40 k 1) qs := hQ
    rw [rd_c hU k0 q0 hu hn, show g_becomesReady U S N (nI u) (pA (pI (pI (pA (pA s 43 u 0) 48 u ((pA s 43 u 0).2.1 48 u + 1)) 75 ((pA (pA s 43 u 0) 48 u ((pA s 43 u 0).2.1 48 u + 1)).1 75 + 1)) 73 ((pI (pA (pA s 43 u 0) 48 u ((pA s 43 u 0).2.1 48 u + 1)) 75 ((pA (pA s 43 u 0) 48 u ((pA s 43 u 0).2.1 48 u + 1)).1 75 + 1)).1 73 + 1)) 40 k 1) = some ((), rdR (pA (pI (pI (pA (pA s 43 u 0) 48 u (s.2.1 48 u + 1)) 75 (s.1 75 + 1)) 73 (s.1 73 + 1)) 40 k 1) u qs.length) from rd_r hU q1 hu hn]
    simp only [Option.bind_some]
    rw [show (rdR (pA (pI (pI (pA (pA s 43 u 0) 48 u (s.2.1 48 u + 1)) 75 (s.1 75 + 1)) 73 (s.1 73 + 1)) 40 k 1) u qs.length).1 67 = s.1 67 from rfl, if_neg n3, cl_c]
    simp only [Option.bind_some]
    have er : pI (rdR (pA (pI (pI (pA (pA s 43 u 0) 48 u (s.2.1 48 u + 1)) 75 (s.1 75 + 1)) 73 (s.1 73 + 1)) 40 k 1) u qs.length) 77 1 = rdR (pA (pI (pA (pA (pI (pI s 77 1) 73 (s.1 73 + 1)) 43 u 0) 48 u (s.2.1 48 u + 1)) 75 (s.1 75 + 1)) 40 k 1) u qs.length := by
      refine Prod.ext ?_ rfl
      funext j
      show up1 (up1 (up1 (up1 s.1 75 (s.1 75 + 1)) 73 (s.1 73 + 1)) 63 (nI (qs.length + 1))) 77 1 j = up1 (up1 (up1 (up1 s.1 77 1) 73 (s.1 73 + 1)) 75 (s.1 75 + 1)) 63 (nI (qs.length + 1)) j
      unfold up1
      repeat' split
      all_goals first | rfl | (exfalso; omega)
    have k1 := Sim_rd hU k0 q0 hu hn
    have j1 := HJ_f40 (HJ_ac (HJ_st (HJ_2 hJ) u (x := 1) (fun z => absurd z (by decide)) (by decide) (fun _ => rfl) (fun _ => rfl)) u w12_0 (by show upd (s.2.1 42) u 1 u ≠ 5; rw [upd_y]; decide)) (k := k) 1 (HJ_own hJ hu hk d3)
    have j2 : HJ U S t.2.2.2.1 (f17 t) (f18 t) (rdR (pA (pI (pA (pA (pI (pI s 77 1) 73 (s.1 73 + 1)) 43 u 0) 48 u (s.2.1 48 u + 1)) 75 (s.1 75 + 1)) 40 k 1) u qs.length) (qs ++ [u]) T B P 2 := by
      refine HJ_q (s := pA (pA (pI (pA (pA (pI (pI s 77 1) 73 (s.1 73 + 1)) 43 u 0) 48 u (s.2.1 48 u + 1)) 75 (s.1 75 + 1)) 40 k 1) 42 u 1) j1 (upd_y _ _ _) hr ?_ ?_ rfl
      · intro j hj
        exact up1_n _ _ hj
      · intro j hj
        exact up1_n _ _ hj
    refine ⟨_, _, qs ++ [u], rfl, rfl, ⟨?_, ?_, ?_⟩, rfl⟩
    · rw [er]; exact Sim_cl k1.1
    · rw [er]; exact k1.2
    · rw [er]
      show HJ U S (up3 (up3 t.2.2.2.1 1 0 1 none) 1 0 2 none) (f17 (qI (qI (qI t 10 u 10 0) 10 u 14 (s.2.1 48 u + 1)) 10 u 8 1)) (f18 (qI (qI (qI t 10 u 10 0) 10 u 14 (s.2.1 48 u + 1)) 10 u 8 1)) _ _ _ _ _ _
      rw [f17_n _ _ _ (by decide), f17_n _ _ _ (by decide), f17_n _ _ _ (by decide), f18_n _ _ _ (by decide), f18_n _ _ _ (by decide), f18_n _ _ _ (by decide)]
      exact HJ_cl j2 0
end
