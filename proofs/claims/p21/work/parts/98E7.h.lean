/-! LAYER 3, the machine: the monitor's calls, one by one -/
section
variable {U S N u k : Nat} {R0 : Rf} {t : CS} {s : RS} {qs : List Nat} {T B : Nat} {P : Nat → Nat}
theorem dn_0 : g_device_371 U S N s = some (1, s) := rfl
theorem nI_le0 {M : Nat} (hM : M < 2 ^ 31) : (nI M ≤ (0 : Int32)) ↔ M = 0 := by
  rw [show (0 : Int32) = nI 0 from rfl, leI hM (by decide)]
  omega
theorem d_3097 (hU : U < 7) (hu : u < U) (h : MS U S u R0 qs T B P t s) (h78 : s.1 78 = 3097) : ∃ t2 s2, u_X3_callMonitor U S N (some u) 3097 t = some (1, t2) ∧ g_device U S N (nI u) s = some (1, s2) ∧ MS U S u R0 qs T B P t2 s2 := by
  obtain ⟨F, M, hF, hM, e1, e2, e3, e4⟩ := (SmG_q h.1 u hu).1
  have ec : u_X3_callMonitor U S N (some u) 3097 t = (u_X6_isEmpty U S N (2 * u) t).bind fun q2 => if ¬ q2.1 = 0 then u_X3_callMonitor_172 U S N (some u) 0 q2.2 else u_X3_callMonitor_172 U S N (some u) 1 q2.2 := rfl
  have ed : g_device U S N (nI u) s = (rA U s 50 (nI u)).bind fun v3 => if v3 ≤ 0 then g_device_371 U S N s else (g_skip U S N (nI u) s).bind fun q4 => g_device_371 U S N q4.2 := by
    unfold g_device; rw [h78]; rfl
  rw [ec, ed, empty_y e2 (by omega), rA_y (by omega) hu, e3, Option.bind_some, Option.bind_some]
  unfold u_X3_callMonitor_172
  by_cases h0 : M = 0
  · rw [if_pos h0, if_pos (show ¬ (1 : Int32) = 0 by decide), if_pos ((nI_le0 (by omega)).mpr h0), skc0, Option.bind_some]
    exact ⟨t, s, rfl, rfl, h⟩
  · obtain ⟨r1, r2⟩ := ms_rpc h
    rw [if_neg h0, if_neg (show ¬ ¬ (0 : Int32) = 0 from not_not_intro rfl), if_neg (fun z => h0 ((nI_le0 (by omega)).mp z)), skc (by decide), skp hU hu, Option.bind_some, Option.bind_some, r1]
    exact ⟨_, _, rfl, rfl, ms_pc h (w12_and _)⟩
theorem d_3098 (hU : U < 7) (hN : 100 < N) (hu : u < U) (h : MS U S u R0 qs T B P t s) (h78 : s.1 78 = 3098) : ∃ t2 s2, u_X3_callMonitor U S N (some u) 3098 t = some (1, t2) ∧ g_device U S N (nI u) s = some (1, s2) ∧ MS U S u R0 qs T B P t2 s2 := by
  have h2 := ms_ac h w12_0
  obtain ⟨F, M, hF, hM, e1, e2, e3, e4⟩ := (SmG_q h2.1 u hu).1
  have ec : u_X3_callMonitor U S N (some u) 3098 t = (u_X6_drop U S N (2 * u) (qI t 10 u 10 0)).bind fun q6 => cZ 1 q6.2 := rfl
  have ed : g_device U S N (nI u) s = (wA U s 43 (nI u) 0).bind fun μ7 => (rA U μ7 50 (nI u)).bind fun v9 => if v9 ≤ 0 then g_device_371 U S N μ7 else (g_goes U S N (nI u) μ7).bind fun q10 => g_device_371 U S N q10.2 := by
    unfold g_device; rw [h78]; rfl
  rw [ec, ed, wA_y (by omega) hu, Option.bind_some, rA_y (by omega) hu, e3, Option.bind_some]
  by_cases h0 : M = 0
  · subst h0
    rw [drop_0 e2, if_pos ((nI_le0 (by omega)).mpr rfl), Option.bind_some]
    exact ⟨_, _, rfl, rfl, h2⟩
  · obtain ⟨M, rfl⟩ : ∃ m, M = m + 1 := ⟨M - 1, by omega⟩
    rw [drop_y e1 e2 hF (by omega), if_neg (fun z => h0 ((nI_le0 (by omega)).mp z)), goes_r hU hN hu (by omega) e3, Option.bind_some, Option.bind_some]
    exact ⟨_, _, rfl, rfl, ms_dk h2 hF (by omega) e4⟩
theorem d_skip (hU : U < 7) (hu : u < U) (h : MS U S u R0 qs T B P t s) (h78 : s.1 78 = 3105) : ∃ t2 s2, u_X3_callMonitor U S N (some u) 3105 t = some (1, t2) ∧ g_device U S N (nI u) s = some (1, s2) ∧ MS U S u R0 qs T B P t2 s2 := by
  obtain ⟨r1, r2⟩ := ms_rpc h
  have ec : u_X3_callMonitor U S N (some u) 3105 t = (u_X3_skipIf U S N (some u) 1 t).bind fun q8 => cZ 1 q8.2 := rfl
  have ed : g_device U S N (nI u) s = (g_skip U S N (nI u) s).bind fun q25 => g_device_371 U S N q25.2 := by
    unfold g_device; rw [h78]; rfl
  rw [ec, ed, skc (by decide), skp hU hu, Option.bind_some, Option.bind_some, r1]
  exact ⟨_, _, rfl, rfl, ms_pc h (w12_and _)⟩
theorem d_nop (h : MS U S u R0 qs T B P t s) {c : Int32} (hc : c ∈ ([3106, 3201, 3202, 3203, 3212, 3220, 3228] : List Int32)) (h78 : s.1 78 = c) : ∃ t2 s2, u_X3_callMonitor U S N (some u) c t = some (1, t2) ∧ g_device U S N (nI u) s = some (1, s2) ∧ MS U S u R0 qs T B P t2 s2 := by
  refine ⟨t, s, ?_, ?_, h⟩
  · simp only [List.mem_cons, List.not_mem_nil, or_false] at hc
    rcases hc with rfl | rfl | rfl | rfl | rfl | rfl | rfl <;> rfl
  · unfold g_device
    rw [h78]
    simp only [List.mem_cons, List.not_mem_nil, or_false] at hc
    rcases hc with rfl | rfl | rfl | rfl | rfl | rfl | rfl <;> rfl
theorem d_who (hU : U < 7) (hu : u < U) (h : MS U S u R0 qs T B P t s) (h78 : s.1 78 = 3343) : ∃ t2 s2, u_X3_callMonitor U S N (some u) 3343 t = some (1, t2) ∧ g_device U S N (nI u) s = some (1, s2) ∧ MS U S u R0 qs T B P t2 s2 := by
  have ec : u_X3_callMonitor U S N (some u) 3343 t = some (1, qI t 10 u 10 (t.1 10 u 0)) := rfl
  have ed : g_device U S N (nI u) s = (wA U s 43 (nI u) (nI u)).bind fun μ28 => g_device_371 U S N μ28 := by
    unfold g_device; rw [h78]; rfl
  rw [ec, ed, (h.1.2.2.2.2.1.2.1 u hu).1, wA_y (by omega) hu, Option.bind_some]
  exact ⟨_, _, rfl, rfl, ms_ac h (w12_n (by omega))⟩
theorem d_slp (hU : U < 7) (hu : u < U) (hq : u ∉ qs) (h : MS U S u R0 qs T B P t s) (h78 : s.1 78 = 3344) (h30 : t.1 3 0 0 = s.1 66) : ∃ t2 s2, u_X3_callMonitor U S N (some u) 3344 t = some (1, t2) ∧ g_device U S N (nI u) s = some (1, s2) ∧ MS U S u R0 qs T B P t2 s2 := by
  obtain ⟨r1, a, ha, r2⟩ := ms_rac h
  have ec : u_X3_callMonitor U S N (some u) 3344 t = (u_X3_fallAsleep U S N (some u) t).bind fun q11 => cZ 1 q11.2 := rfl
  have ed : g_device U S N (nI u) s = (rA U s 43 (nI u)).bind fun v30 => if v30 ≤ 0 then g_device_274 U S N (nI u) s else (wA U s 42 (nI u) 4).bind fun μ32 => (rA U μ32 43 (nI u)).bind fun v36 => (wA U μ32 57 (nI u) ((μ32.1 66) + (16 * v36))).bind fun μ37 => g_device_274 U S N (nI u) μ37 := by
    unfold g_device; rw [h78]; rfl
  rw [ec, ed, rA_y (by omega) hu, r2, Option.bind_some]
  unfold u_X3_fallAsleep u_X3_fallAsleep_28 g_device_274
  rw [Option.bind_some, r1, r2]
  by_cases h0 : a = 0
  · subst h0
    rw [if_pos (show nI 0 = (0 : Int32) from rfl), if_pos ((nI_le0 (by omega)).mpr rfl), wA_y (by omega) hu, Option.bind_some]
    exact ⟨_, _, rfl, rfl, ms_ac h w12_0⟩
  · rw [if_neg (show ¬ nI a = (0 : Int32) from fun z => h0 ((eqI (a := a) (b := 0) (by omega) (by decide)).mp z)), if_neg (fun z => h0 ((nI_le0 (by omega)).mp z)), wA_y (by omega) hu]
    simp only [Option.bind_some]
    rw [rA_y (by omega) hu, show (pA s 42 u 4).2.1 43 u = nI a from r2, Option.bind_some, wA_y (by omega) hu, Option.bind_some, wA_y (by omega) hu, Option.bind_some]
    rw [show (qI t 10 u 8 4).1 3 0 0 = s.1 66 from h30, show (qI t 10 u 8 4).1 10 u 10 = nI a by show up3 t.1 10 u 8 4 10 u 10 = _; rw [up3_n _ _ (fun e => absurd e.2.2 (by decide))]; exact r1.trans r2]
    exact ⟨_, _, rfl, rfl, ms_ac (ms_wk (ms_st h hq (by decide)) _) w12_0⟩
theorem d_3100 (hU : U < 7) (hN : 100 < N) (hu : u < U) (h : MS U S u R0 qs T B P t s) {c : Int32} (hc : c = 3100 ∨ c = 3102) (h78 : s.1 78 = c) {F M : Nat} (hF : F < 16) (hM : M < 16) (e1 : t.1 6 (2 * u) 1 = nI F) (e2 : t.1 6 (2 * u) 2 = nI (M + 1)) (e3 : s.2.1 50 u = nI (M + 1)) (e4 : ∀ i, i < M + 1 → t.2.1 6 (2 * u) 0 ((F + i) % 16) = s.2.2 49 u i) : ∃ t2 s2, u_X3_callMonitor U S N (some u) c t = some (1, t2) ∧ g_device U S N (nI u) s = some (1, s2) ∧ MS U S u R0 qs T B P t2 s2 := by
  have hv : t.2.1 6 (2 * u) 0 F = s.2.2 49 u 0 := by
    have := e4 0 (by omega)
    rw [show (F + 0) % 16 = F by omega] at this
    exact this
  have k7 : K7 (s.2.2 49 u 0) := h.2.2.1.1.2.2.2.2.2.2.2.2 u 0
  have g0 : rG 16 s 49 u 0 = some (s.2.2 49 u 0) := rG_y (n := 16) (i := 0) (by decide) (by decide) s 49 u
  obtain ⟨ra1, ra2⟩ := ms_rac h
  rcases hc with rfl | rfl
  · have ec : u_X3_callMonitor U S N (some u) 3100 t = u_X3_callMonitor_205 U S N (some u) 0 t := rfl
    have ed : g_device U S N (nI u) s = (rA U s 43 (nI u)).bind fun v13 => (rQ U (nI u)).bind fun v15 => (rG 16 s 49 v15 0).bind fun v16 => (wA U s 43 (nI u) (v13 ||| (v16 ||| 128))).bind fun μ17 => g_device_371 U S N μ17 := by
      unfold g_device; rw [h78]; rfl
    rw [ec, ed, rA_y (by omega) hu, Option.bind_some, rQ_y (by omega) hu, Option.bind_some, g0, Option.bind_some, wA_y (by omega) hu, Option.bind_some]
    unfold u_X3_callMonitor_205 u_X3_readKey u_X3_readKey_58
    rw [Option.bind_some, empty_y e2 (by omega), if_neg (by omega), Option.bind_some, if_pos rfl, head_y e1 e2 hF hM, Option.bind_some, if_pos rfl, Option.bind_some, hv, ra1]
    exact ⟨_, _, rfl, rfl, ms_ac h (w12_or ra2 (k7_or k7))⟩
  · have ec : u_X3_callMonitor U S N (some u) 3102 t = u_X3_callMonitor_205 U S N (some u) 1 t := rfl
    have ed : g_device U S N (nI u) s = (rQ U (nI u)).bind fun v20 => (rG 16 s 49 v20 0).bind fun v21 => (wA U s 43 (nI u) (v21 ||| 128)).bind fun μ22 => (g_goes U S N (nI u) μ22).bind fun q23 => g_device_371 U S N q23.2 := by
      unfold g_device; rw [h78]; rfl
    have h2 := ms_ac h (k7_or k7)
    rw [ec, ed, rQ_y (by omega) hu, Option.bind_some, g0, Option.bind_some, wA_y (by omega) hu, Option.bind_some, goes_r (s := pA s 43 u (s.2.2 49 u 0 ||| 128)) hU hN hu hM e3, Option.bind_some]
    unfold u_X3_callMonitor_205 u_X3_readKey u_X3_readKey_58
    rw [Option.bind_some, empty_y e2 (by omega), if_neg (by omega), Option.bind_some, if_pos rfl, head_y e1 e2 hF hM, Option.bind_some, if_neg (show ¬ (1 : Int32) = 0 by decide), Option.bind_some, hv, drop_y (t := qI t 10 u 10 (s.2.2 49 u 0 ||| 128)) e1 e2 hF hM, Option.bind_some]
    exact ⟨_, _, rfl, rfl, ms_dk h2 hF hM e4⟩
theorem d_let (hU : U < 7) (hu : u < U) (h : MS U S u R0 qs T B P t s) {c : Int32} (hc : c = 3108 ∨ c = 3110) (h78 : s.1 78 = c) {F M : Nat} (hF : F < 16) (hM : M < 16) (e1 : t.1 6 (2 * u + 1) 1 = nI F) (e2 : t.1 6 (2 * u + 1) 2 = nI M) (e3 : s.2.1 53 u = nI M) (e4 : ∀ i, i < M → t.2.1 6 (2 * u + 1) 0 ((F + i) % 16) = s.2.2 52 u i) : ∃ t2 s2, u_X3_callMonitor U S N (some u) c t = some (1, t2) ∧ g_device U S N (nI u) s = some (1, s2) ∧ MS U S u R0 qs T B P t2 s2 := by
  have ec : u_X3_callMonitor U S N (some u) c t = u_X3_callMonitor_216 U S N (some u) t := by
    rcases hc with rfl | rfl <;> rfl
  have ed : g_device U S N (nI u) s = g_device_203 U S N (nI u) s := by
    unfold g_device; rw [h78]
    rcases hc with rfl | rfl <;> rfl
  obtain ⟨ra1, ra2⟩ := ms_rac h
  rw [ec, ed]
  unfold u_X3_callMonitor_216 u_X3_sendLetter g_device_203
  rw [Option.bind_some, full_y e2 (by omega), if_neg (by omega), Option.bind_some, if_pos rfl, app_y e1 e2 hF hM, Option.bind_some, rQ_y (by omega) hu, Option.bind_some, rA_y (by omega) hu, e3, Option.bind_some, rA_y (by omega) hu, Option.bind_some, wG_y (by decide) (by omega), Option.bind_some, rA_y (by omega) hu, show (pG s 52 u M (s.2.1 43 u &&& 127)).2.1 53 u = nI M from e3, Option.bind_some, nI_1, wA_y (by omega) hu, Option.bind_some, ra1]
  exact ⟨_, _, rfl, rfl, ms_le h e1 hF hM e4 _⟩
theorem d_blk (hU : U < 7) (hu : u < U) (hBT : B = T) (hq : u ∉ qs) (hsl : R0 10 u 19 = some k) (hnc : R0 1 0 1 ≠ some u) (h : MS U S u R0 qs T B P t s) {c : Int32} (hc : c = 3360 ∨ c = 3361) (h78 : s.1 78 = c) (h30 : t.1 3 0 0 = nI T) : ∃ t2 s2, u_X3_callMonitor U S N (some u) c t = some (0, t2) ∧ g_device U S N (nI u) s = some (0, s2) ∧ MF U S R0 qs T B P t2 s2 := by
  have ed : ∀ y : Int32, (y = 0 ∨ y = 1) → g_device_321 U S N (nI u) (nI u) y (pA s 42 u 5) = some (0, pI (pA (pA (pA (pA (pA s 42 u 5) 61 u y) 60 u (s.2.1 43 u &&& 7)) 59 u (s.2.1 44 u)) 58 u (s.1 76)) 76 (s.1 76 + 1)) := by
    intro y hy
    unfold g_device_321
    rw [wZ_y (by omega) hu _ _ hy, Option.bind_some, rA_y (by omega) hu, Option.bind_some, wA_y (by omega) hu, Option.bind_some, rA_y (by omega) hu, Option.bind_some, wA_y (by omega) hu, Option.bind_some, wA_y (by omega) hu, Option.bind_some, Option.bind_some]
    rfl
  rcases hc with rfl | rfl
  · have ec : u_X3_callMonitor U S N (some u) 3360 t = some (0, qI (qI (qI t 10 u 8 5) 10 u 18 3) 10 u 17 (t.1 3 0 0)) := rfl
    have ed2 : g_device U S N (nI u) s = (wA U s 42 (nI u) 5).bind fun μ2 => if ¬ (μ2.1 78) = (3361 : Int32) then g_device_321 U S N (nI u) (nI u) 0 μ2 else g_device_321 U S N (nI u) (nI u) 1 μ2 := by
      unfold g_device; rw [h78]; rfl
    rw [ec, ed2, wA_y (by omega) hu, Option.bind_some, show (pA s 42 u 5).1 78 = 3360 from h78, if_pos (by decide), ed 0 (Or.inl rfl), h30]
    exact ⟨_, _, rfl, rfl, mf_bk h hBT hq hsl hnc (Or.inl ⟨rfl, rfl⟩)⟩
  · have ec : u_X3_callMonitor U S N (some u) 3361 t = some (0, qI (qI (qI t 10 u 8 5) 10 u 18 4) 10 u 17 (t.1 3 0 0)) := rfl
    have ed2 : g_device U S N (nI u) s = (wA U s 42 (nI u) 5).bind fun μ2 => if ¬ (μ2.1 78) = (3361 : Int32) then g_device_321 U S N (nI u) (nI u) 0 μ2 else g_device_321 U S N (nI u) (nI u) 1 μ2 := by
      unfold g_device; rw [h78]; rfl
    rw [ec, ed2, wA_y (by omega) hu, Option.bind_some, show (pA s 42 u 5).1 78 = 3361 from h78, if_neg (not_not_intro rfl), ed 1 (Or.inr rfl), h30]
    exact ⟨_, _, rfl, rfl, mf_bk h hBT hq hsl hnc (Or.inr ⟨rfl, rfl⟩)⟩
end
