/-! LAYER 3, the machine: calls of the monitor; a step -/
section
variable {U S N u k : Nat} {R0 : Rf} {t : CS} {s : RS} {qs : List Nat} {T B : Nat} {P : Nat → Nat}
theorem Sim_fr (H : Sim U S t s) {r : Nat} (hr : r = 58 ∨ r = 59 ∨ r = 60 ∨ r = 61) (j : Nat) (x : Int32) : Sim U S t (pA s r j x) := by
  obtain ⟨hA, hSs, hB, hC, hR, hL, hK, hQ, hG, hM, hT⟩ := H
  have f5 : ∀ q, q ≠ r → (pA s r j x).2.1 q = s.2.1 q := fun q hq => up1_n _ _ hq
  refine ⟨?_, ?_, hB, hC, ?_, hL, hK, ?_, ?_, ?_, ?_⟩
  · intro p hp i
    have : p.2 ≠ 58 ∧ p.2 ≠ 59 ∧ p.2 ≠ 60 ∧ p.2 ≠ 61 := by
      have : ∀ p, p ∈ mU → p.2 ≠ 58 ∧ p.2 ≠ 59 ∧ p.2 ≠ 60 ∧ p.2 ≠ 61 := by decide
      exact this p hp
    rw [f5 _ (by omega)]
    exact hA p hp i
  · intro p hp i
    have : p.2 ≠ 58 ∧ p.2 ≠ 59 ∧ p.2 ≠ 60 ∧ p.2 ≠ 61 := by
      have : ∀ p, p ∈ mS → p.2 ≠ 58 ∧ p.2 ≠ 59 ∧ p.2 ≠ 60 ∧ p.2 ≠ 61 := by decide
      exact this p hp
    rw [f5 _ (by omega)]
    exact hSs p hp i
  · unfold SmR
    rw [f5 41 (by omega), f5 38 (by omega)]
    exact hR
  · unfold SmQ isQ
    rw [f5 62 (by omega)]
    exact hQ
  · intro i hi
    rw [f5 50 (by omega), f5 53 (by omega)]
    exact hG i hi
  · unfold SmM
    rw [f5 25 (by omega)]
    exact hM
  · unfold SmT
    rw [f5 0 (by omega)]
    exact hT
theorem Sim_fc (H : Sim U S t s) {c : Nat} (hc : c = 17 ∨ c = 18) (j : Nat) (x : Int32) : Sim U S (qI t 10 j c x) s := by
  obtain ⟨hA, hSs, hB, hC, hR, hL, hK, hQ, hG, hM, hT⟩ := H
  refine ⟨?_, hSs, SmB_c hB (by decide) j c x, hC, ?_, hL, hK, hQ, hG, hM, hT⟩
  · intro p hp i
    have : p.1 ≠ 17 ∧ p.1 ≠ 18 := by
      have : ∀ p, p ∈ mU → p.1 ≠ 17 ∧ p.1 ≠ 18 := by decide
      exact this p hp
    show up3 t.1 10 j c x 10 i p.1 = _
    rw [up3_n _ _ (fun e => by have := e.2.2; omega)]
    exact hA p hp i
  · refine ⟨hR.1, fun i hi => ?_, hR.2.2⟩
    obtain ⟨a, b, d⟩ := hR.2.1 i hi
    refine ⟨?_, b, d⟩
    show up3 t.1 10 j c x 10 i 0 = nI i
    rw [up3_n _ _ (fun e => by have := e.2.2; omega)]
    exact a
theorem Sim_76 (H : Sim U S t s) (x : Int32) : Sim U S t (pI s 76 x) := by
  obtain ⟨hA, hSs, hB, hC, hR, hL, hK, hQ, hG, hM, hT⟩ := H
  refine ⟨hA, hSs, ?_, hC, hR, hL, hK, hQ, hG, hM, hT⟩
  intro p hp
  simp only [mB, List.mem_cons, List.not_mem_nil, or_false] at hp
  rcases hp with rfl | rfl | rfl | rfl | rfl | rfl | rfl | rfl | rfl | rfl | rfl | rfl <;> exact hB _ (by decide)
/-- a user waits for a block -/
theorem HJ_bk {R : Rf} {v w : Nat → Int32} (h : HJ U S R v w s qs T B P 0) (hBT : B = T) (hq : u ∉ qs) (hsl : R 10 u 19 ≠ none) (hnr : R 2 0 8 ≠ some u) (hnc : R 1 0 1 ≠ some u) {y z : Int32} (hyz : (y = 0 ∧ z = 3) ∨ (y = 1 ∧ z = 4)) : HJ U S R (upd v u (nI T)) (upd w u z) (pI (pA (pA (pA (pA (pA s 42 u 5) 61 u y) 60 u (s.2.1 43 u &&& 7)) 59 u (s.2.1 44 u)) 58 u (s.1 76)) 76 (s.1 76 + 1)) qs T (B + 1) P 0 := by
  obtain ⟨hWw, hT, hB, ⟨W, fa, fb, x1, x2, x3, x4⟩, hS, hQ, hR, hO⟩ := h
  rw [x2, nI_1]
  have st : ∀ j, j ≠ u → (pI (pA (pA (pA (pA (pA s 42 u 5) 61 u y) 60 u (s.2.1 43 u &&& 7)) 59 u (s.2.1 44 u)) 58 u (nI W)) 76 (nI (W + 1))).2.1 42 j = s.2.1 42 j := fun j hj => upd_n _ _ hj
  refine ⟨hWw, hT, ?_, ⟨W + 1, (fun j => if j = u then W else fa j), (fun j => if j = u then T else fb j), by omega, rfl, ?_, ?_⟩, hS, ?_, ?_, ?_⟩
  · intro j hj e
    by_cases hju : j = u
    · subst hju
      refine ⟨hsl, upd_y _ _ _, upd_y _ _ _, ?_⟩
      show (upd (s.2.1 61) j y j = 0 ∧ upd w j z j = 3) ∨ (upd (s.2.1 61) j y j = 1 ∧ upd w j z j = 4)
      rw [upd_y, upd_y]
      exact hyz
    · rw [st j hju] at e
      obtain ⟨b1, b2, b3, b4⟩ := hB j hj e
      refine ⟨b1, ?_, ?_, ?_⟩
      · show upd (s.2.1 59) u _ j = s.2.1 44 j
        rw [upd_n _ _ hju]; exact b2
      · show upd (s.2.1 60) u _ j = s.2.1 43 j &&& 7
        rw [upd_n _ _ hju]; exact b3
      · show (upd (s.2.1 61) u y j = 0 ∧ upd w u z j = 3) ∨ (upd (s.2.1 61) u y j = 1 ∧ upd w u z j = 4)
        rw [upd_n _ _ hju, upd_n _ _ hju]; exact b4
  · intro j hj e
    by_cases hju : j = u
    · subst hju
      show upd (s.2.1 58) j (nI W) j = nI (if j = j then W else fa j) ∧ (if j = j then W else fa j) < W + 1 ∧ upd v j (nI T) j = nI (if j = j then T else fb j) ∧ (if j = j then T else fb j) < B + 1
      rw [upd_y, upd_y, if_pos rfl, if_pos rfl]
      exact ⟨rfl, by omega, rfl, by omega⟩
    · rw [st j hju] at e
      obtain ⟨c1, c2, c3, c4⟩ := x3 j hj e
      show upd (s.2.1 58) u (nI W) j = nI (if j = u then W else fa j) ∧ (if j = u then W else fa j) < W + 1 ∧ upd v u (nI T) j = nI (if j = u then T else fb j) ∧ (if j = u then T else fb j) < B + 1
      rw [upd_n _ _ hju, upd_n _ _ hju, if_neg hju, if_neg hju]
      exact ⟨c1, by omega, c3, by omega⟩
  · intro j l hj hl e1 e2
    show (if j = u then W else fa j) ≤ (if l = u then W else fa l) ↔ (if j = u then T else fb j) ≤ (if l = u then T else fb l)
    by_cases hju : j = u
    · rw [if_pos hju, if_pos hju]
      by_cases hlu : l = u
      · rw [if_pos hlu, if_pos hlu]; simp
      · rw [st l hlu] at e2
        obtain ⟨c1, c2, c3, c4⟩ := x3 l hl e2
        rw [if_neg hlu, if_neg hlu]
        omega
    · rw [if_neg hju, if_neg hju]
      rw [st j hju] at e1
      obtain ⟨c1, c2, c3, c4⟩ := x3 j hj e1
      by_cases hlu : l = u
      · rw [if_pos hlu, if_pos hlu]
        omega
      · rw [st l hlu] at e2
        rw [if_neg hlu, if_neg hlu]
        exact x4 j l hj hl e1 e2
  · intro j hj
    have hju : j ≠ u := fun z => hq (z ▸ hj)
    rw [st j hju]
    exact hQ j hj
  · intro u2 hu2
    have hju : u2 ≠ u := fun z => hnr (z ▸ hu2)
    rw [st u2 hju]
    exact hR u2 hu2
  · intro hD u2 k2 e1 e2
    have hju : u2 ≠ u := fun z => hnc (z ▸ e1)
    rw [st u2 hju]
    exact hO hD u2 k2 e1 e2
theorem f17_y (t : CS) (u : Nat) (x : Int32) : f17 (qI t 10 u 17 x) = upd (f17 t) u x := by
  funext j
  show up3 t.1 10 u 17 x 10 j 17 = _
  unfold up3 upd f17
  by_cases h : j = u
  · rw [if_pos ⟨rfl, h, rfl⟩, if_pos h]
  · rw [if_neg (fun e => h e.2.1), if_neg h]
theorem f18_y (t : CS) (u : Nat) (x : Int32) : f18 (qI t 10 u 18 x) = upd (f18 t) u x := by
  funext j
  show up3 t.1 10 u 18 x 10 j 18 = _
  unfold up3 upd f18
  by_cases h : j = u
  · rw [if_pos ⟨rfl, h, rfl⟩, if_pos h]
  · rw [if_neg (fun e => h e.2.1), if_neg h]
/-- what a step leaves -/
def MF (U S : Nat) (R0 : Rf) (qs : List Nat) (T B : Nat) (P : Nat → Nat) (t : CS) (s : RS) : Prop := Sim U S t s ∧ isQ U t s qs ∧ HJ U S (up3 R0 2 0 8 none) (f17 t) (f18 t) s qs T (B + 1) P 0 ∧ t.2.2.2.1 = R0
theorem ms_f (h : MS U S u R0 qs T B P t s) : MF U S R0 qs T B P t s := ⟨h.1, h.2.1, HJ_B1 h.2.2.1, h.2.2.2.1⟩
theorem mf_bk (h : MS U S u R0 qs T B P t s) (hBT : B = T) (hq : u ∉ qs) (hsl : R0 10 u 19 = some k) (hnc : R0 1 0 1 ≠ some u) {y z : Int32} (hyz : (y = 0 ∧ z = 3) ∨ (y = 1 ∧ z = 4)) : MF U S R0 qs T B P (qI (qI (qI t 10 u 8 5) 10 u 18 z) 10 u 17 (nI T)) (pI (pA (pA (pA (pA (pA s 42 u 5) 61 u y) 60 u (s.2.1 43 u &&& 7)) 59 u (s.2.1 44 u)) 58 u (s.1 76)) 76 (s.1 76 + 1)) := by
  obtain ⟨h1, h2, h3, h4, h5⟩ := h
  refine ⟨?_, h2, ?_, h4⟩
  · exact Sim_76 (Sim_fr (Sim_fr (Sim_fr (Sim_fr (Sim_fc (Sim_fc (Sim_U h1 (q := (8, 42)) (by decide) u 5) (Or.inr rfl) u z) (Or.inl rfl) u (nI T)) (r := 61) (by omega) u y) (r := 60) (by omega) u _) (r := 59) (by omega) u _) (r := 58) (by omega) u _) _
  · rw [f17_y, f17_n _ _ _ (by decide), f17_n _ _ _ (by decide), f18_n _ _ _ (by decide), f18_y, f18_n _ _ _ (by decide)]
    exact HJ_bk h3 hBT hq (by show R0 10 u 19 ≠ none; rw [hsl]; simp) (fun z => by cases z) hnc hyz
theorem s139_1 (hU : U < 7) (hu : u < U) : g_step_139 U S N (nI u) 1 s = some ((), pI (pA s 48 u (s.2.1 48 u + 1)) 75 (s.1 75 + 1)) := by
  unfold g_step_139
  rw [if_pos (by decide), rA_y (by omega) hu]
  simp only [Option.bind_some]
  rw [wA_y (by omega) hu]
  rfl
theorem s139_0 : g_step_139 U S N (nI u) 0 s = some ((), s) := by
  unfold g_step_139
  rw [if_neg (not_not_intro rfl)]
/-- both stand behind an instruction -/
def SO (U S : Nat) (R0 : Rf) (qs : List Nat) (T B : Nat) (P : Nat → Nat) (u : Nat) (c : Option (Int32 × CS)) (g : Option (Unit × RS)) : Prop := ∃ x t1 s1, c = some (x, t1) ∧ ((x = 0 ∧ g = some ((), s1)) ∨ (x = 1 ∧ g = some ((), pI (pA s1 48 u (s1.2.1 48 u + 1)) 75 (s1.1 75 + 1)))) ∧ MF U S R0 qs T B P t1 s1
/-- the calls that the monitor knows -/
def mon : List Int32 := [3097, 3098, 3100, 3102, 3105, 3106, 3108, 3110, 3201, 3202, 3203, 3212, 3220, 3228, 3343, 3344, 3360, 3361]
theorem nw_y {c : Int32} (hc : c ∈ mon) (h78 : s.1 78 = c) : g_isWrong U S N s = some (0, s) := by
  unfold g_isWrong g_isWrong_55 g_isWrong_228
  rw [h78]
  simp only [mon, List.mem_cons, List.not_mem_nil, or_false] at hc
  rcases hc with rfl | rfl | rfl | rfl | rfl | rfl | rfl | rfl | rfl | rfl | rfl | rfl | rfl | rfl | rfl | rfl | rfl | rfl <;> rfl
theorem nw_n {v : Int32} (hv : v ∉ mon) (h6 : v >>> ((9 : Int32) &&& 31) = 6) (h78 : s.1 78 = v) : g_isWrong U S N s = some (1, s) := by
  simp only [mon, List.mem_cons, List.not_mem_nil, or_false, not_or] at hv
  obtain ⟨a1, a2, a3, a4, a5, a6, a7, a8, a9, a10, a11, a12, a13, a14, a15, a16, a17, a18⟩ := hv
  unfold g_isWrong g_isWrong_55
  rw [h78, h6, if_pos (by decide), if_pos rfl, if_neg a1, if_neg a2, if_neg a3, if_neg a4, if_neg a5, if_neg a6, if_neg a7, if_neg a8, if_neg a9, if_neg a10, if_neg a11, if_neg a12, if_neg a13, if_neg a14, if_neg a15, if_neg a16, if_neg a17, if_neg a18]
  rfl
theorem mw_0 (hU : U < 7) (hu : u < U) (h1 : s.2.1 42 u = 1) {v : Int32} (h78 : s.1 78 = v) (a1 : ¬ v = 3100) (a2 : ¬ v = 3102) (a3 : ¬ v = 3108) (a4 : ¬ v = 3110) : g_mustWait U S N (nI u) s = some (0, s) := by
  unfold g_mustWait g_mustWait_36 g_mustWait_74 g_mustWait_89
  rw [h78, if_neg a1, if_pos a2, if_neg a3, if_pos a4, rA_y (by omega) hu, h1]
  rfl
end
