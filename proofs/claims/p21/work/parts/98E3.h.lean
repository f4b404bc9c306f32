/-! LAYER 3, the machine: group 2 -/
section
variable {U S N u k : Nat} {R0 : Rf} {t : CS} {s : RS} {qs : List Nat} {T B : Nat} {P : Nat → Nat}
theorem al_op2 (hU : U < 7) (hu : u < U) (hq : u ∉ qs) (h : MS U S u R0 qs T B P t s) {i : Nat} (hi : i < 4096) (h78 : s.1 78 = nI i) : ∃ t2 s2, u_X3_skipOrStop U S N (some u) (nI i) t = some ((), t2) ∧ g_second U S N (nI u) s = some ((), s2) ∧ MS U S u R0 qs T B P t2 s2 := by
  have s7 : ∀ (t : CS) (s : RS), MS U S u R0 qs T B P t s → s.1 78 = nI i → ∃ t2 s2, u_X3_skipOrStop_110 U S N (some u) (nI i) t = some ((), t2) ∧ g_second_119 U S N (nI u) s = some ((), s2) ∧ MS U S u R0 qs T B P t2 s2 := by
    intro t s h h78
    unfold u_X3_skipOrStop_110 u_X3_skipOrStop_122 g_second_119 g_second_135
    rw [has_r h78]
    simp only [Option.bind_some]
    by_cases c : nI i &&& 2 = 0
    · rw [if_pos c, if_pos c, if_pos rfl]
      exact ⟨t, s, rfl, rfl, h⟩
    · rw [if_neg c, if_neg c, if_neg (show ¬ (1 : Int32) = 0 by decide), wA_y (by omega) hu]
      exact ⟨_, _, rfl, rfl, ms_st h hq (by decide)⟩
  have s6 : ∀ (t : CS) (s : RS), MS U S u R0 qs T B P t s → s.1 78 = nI i → ∃ t2 s2, u_X3_skipOrStop_91 U S N (some u) (nI i) t = some ((), t2) ∧ g_second_96 U S N (nI u) s = some ((), s2) ∧ MS U S u R0 qs T B P t2 s2 := by
    intro t s h h78
    obtain ⟨ra1, ra2⟩ := ms_rac h
    obtain ⟨rs1, rs2⟩ := ms_rsw h
    unfold u_X3_skipOrStop_91 g_second_96
    rw [has_r h78]
    simp only [Option.bind_some]
    by_cases c : nI i &&& 4 = 0
    · rw [if_pos c, if_pos c, if_pos rfl]
      exact s7 t s h h78
    · rw [if_neg c, if_neg c, if_neg (show ¬ (1 : Int32) = 0 by decide), rA_y (by omega) hu, rA_y (by omega) hu, ra1, rs1]
      simp only [Option.bind_some]
      rw [wA_y (by omega) hu]
      exact s7 _ _ (ms_ac h (w12_or ra2 rs2)) h78
  have s5 : ∀ (t : CS) (s : RS), MS U S u R0 qs T B P t s → s.1 78 = nI i → ∃ t2 s2, (if (nI i &&& 128) = 0 then u_X3_skipOrStop_91 U S N (some u) (nI i) t else u_X3_skipOrStop_91 U S N (some u) (nI i) (qI t 10 u 10 0)) = some ((), t2) ∧ g_second_79 U S N (nI u) s = some ((), s2) ∧ MS U S u R0 qs T B P t2 s2 := by
    intro t s h h78
    unfold g_second_79
    rw [has_r h78]
    simp only [Option.bind_some]
    by_cases c : nI i &&& 128 = 0
    · rw [if_pos c, if_pos c, if_pos rfl]
      exact s6 t s h h78
    · rw [if_neg c, if_neg c, if_neg (show ¬ (1 : Int32) = 0 by decide), wA_y (by omega) hu]
      exact s6 _ _ (ms_ac h w12_0) h78
  have s4 : ∀ (x : Int32), (x = 0 ∨ x = 1) → ∃ t2 s2, u_X3_skipOrStop_52 U S N (some u) (nI i) x t = some ((), t2) ∧ g_second_63 U S N (nI u) x s = some ((), s2) ∧ MS U S u R0 qs T B P t2 s2 := by
    intro x hx
    obtain ⟨rp1, rp2⟩ := ms_rpc h
    unfold u_X3_skipOrStop_52 u_X3_skipOrStop_67 u_X3_skipOrStop_75 g_second_63
    rw [has_r h78, skc0, skc (by decide)]
    simp only [Option.bind_some]
    rw [skp hU hu, rp1]
    simp only [Option.bind_some]
    have k0 := s5 t s h h78
    have k1 := s5 _ _ (ms_pc h (w12_and (s.2.1 45 u + 1))) h78
    by_cases c : nI i &&& 8 = 0
    · rw [if_pos c, if_pos c]
      rcases hx with rfl | rfl
      · rw [if_pos rfl, if_pos rfl]; exact k0
      · rw [if_neg (show ¬ (1 : Int32) = 0 by decide), if_neg (show ¬ (1 : Int32) = 0 by decide)]; exact k1
    · rw [if_neg c, if_neg c]
      rcases hx with rfl | rfl
      · rw [if_neg (show ¬ (0 : Int32) = 1 by decide), if_neg (show ¬ (0 : Int32) = 1 by decide)]; exact k1
      · rw [if_pos rfl, if_pos rfl]; exact k0
  have s3 : ∃ t2 s2, u_X3_skipOrStop_32 U S N (some u) (nI i) t = some ((), t2) ∧ g_second_39 U S N (nI u) s = some ((), s2) ∧ MS U S u R0 qs T B P t2 s2 := by
    obtain ⟨rl1, rl2⟩ := ms_rlk h
    unfold u_X3_skipOrStop_32 u_X3_skipOrStop_51 u_X3_skipOrStop_47 g_second_39 g_second_62 g_second_58
    rw [has_r h78]
    simp only [Option.bind_some]
    by_cases c : nI i &&& 16 = 0
    · rw [if_pos c, if_pos c, if_pos rfl]
      exact s4 0 (Or.inl rfl)
    · rw [if_neg c, if_neg c, if_neg (show ¬ (1 : Int32) = 0 by decide), rA_y (by omega) hu, rl1]
      simp only [Option.bind_some]
      by_cases d : s.2.1 46 u = 1
      · rw [if_neg (not_not_intro d), if_neg (not_not_intro d)]; exact s4 1 (Or.inr rfl)
      · rw [if_pos d, if_pos d]; exact s4 0 (Or.inl rfl)
  have s2 : ∃ t2 s2, u_X3_skipOrStop_18 U S N (some u) (nI i) t = some ((), t2) ∧ g_second_21 U S N (nI u) s = some ((), s2) ∧ MS U S u R0 qs T B P t2 s2 := by
    obtain ⟨ra1, ra2⟩ := ms_rac h
    unfold u_X3_skipOrStop_18 u_X3_skipOrStop_47 g_second_21 g_second_58
    rw [has_r h78]
    simp only [Option.bind_some]
    by_cases c : nI i &&& 32 = 0
    · rw [if_pos c, if_pos c, if_pos rfl]
      exact s3
    · rw [if_neg c, if_neg c, if_neg (show ¬ (1 : Int32) = 0 by decide), rA_y (by omega) hu, ra1]
      simp only [Option.bind_some]
      by_cases d : s.2.1 43 u = 0
      · rw [if_pos d, if_pos d]; exact s4 1 (Or.inr rfl)
      · rw [if_neg d, if_neg d]; exact s3
  obtain ⟨ra1, a, ha, ra2⟩ := ms_rac h
  unfold u_X3_skipOrStop u_X3_skipOrStop_47 g_second g_second_58
  rw [has_r h78]
  simp only [Option.bind_some]
  by_cases c : nI i &&& 64 = 0
  · rw [if_pos c, if_pos c, if_pos rfl]
    exact s2
  · rw [if_neg c, if_neg c, if_neg (show ¬ (1 : Int32) = 0 by decide), rA_y (by omega) hu, ra1, ra2]
    simp only [Option.bind_some]
    have e1 : (nI a &&& 2048 = 0) ↔ (a &&& 2048 = 0) := tb (c := 2048) (d := 0) ha (by decide) (by decide)
    have e2 : ((2047 : Int32) < nI a) ↔ 2047 < a := ltI (a := 2047) (by decide) (by omega)
    by_cases d : 2047 < a
    · rw [if_pos (fun z => (b2048 a ha).mp (e1.mp z) d), if_pos (e2.mpr d)]; exact s4 1 (Or.inr rfl)
    · rw [if_neg (not_not_intro (e1.mpr ((b2048 a ha).mpr d))), if_neg (fun z => d (e2.mp z))]; exact s2
end
