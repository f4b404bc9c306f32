/-! LAYER 3, the house: rows of 16, a user's clock -/
def shf (f : Nat → Int32) (k M : Nat) : Nat → Int32 := fun i => if k ≤ i ∧ i < M then f (i + 1) else f i
theorem shf_s (f : Nat → Int32) {k M : Nat} (h : k < M) : shf (upd f k (f (k + 1))) (k + 1) M = shf f k M := by
  funext i
  unfold shf
  by_cases h1 : k + 1 ≤ i ∧ i < M
  · rw [if_pos h1, if_pos ⟨by omega, h1.2⟩, upd_n _ _ (by omega)]
  · rw [if_neg h1]
    by_cases h2 : i = k
    · subst h2; rw [upd_y, if_pos ⟨Nat.le_refl _, h⟩]
    · rw [upd_n _ _ h2, if_neg (fun e => h1 ⟨by omega, e.2⟩)]
theorem shf_e (f : Nat → Int32) (M : Nat) : shf f M M = f := by
  funext i
  unfold shf
  rw [if_neg (fun e => by omega)]
theorem ring_drop {a b : Nat → Int32} {F M : Nat} (hF : F < 16) (hM : M < 16) (h : ∀ i, i < M + 1 → a ((F + i) % 16) = b i) : ring (nI ((F + 1) % 16)) (nI M) a (nI M) (shf b 0 M) := by
  refine ⟨(F + 1) % 16, M, Nat.mod_lt _ (by decide), by omega, rfl, rfl, rfl, fun i hi => ?_⟩
  unfold shf
  rw [if_pos ⟨Nat.zero_le _, hi⟩, ← h (i + 1) (by omega)]
  congr 1
  omega
section
variable {U S N : Nat} {t : CS} {s : RS} {qs : List Nat} {T B D : Nat} {P : Nat → Nat}
theorem drop_y {r F M : Nat} (h1 : t.1 6 r 1 = nI F) (h2 : t.1 6 r 2 = nI (M + 1)) (hF : F < 16) (hM : M < 16) : u_X6_drop U S N r t = some ((), qI (qI t 6 r 1 (nI ((F + 1) % 16))) 6 r 2 (nI M)) := by
  unfold u_X6_drop u_X6_isEmpty u_X6_isEmpty_12
  rw [h2, if_pos (show ¬ nI (M + 1) = 0 from fun z => by have := (eqI (a := M + 1) (b := 0) (by omega) (by decide)).mp z; omega)]
  show (some ((0 : Int32), t)).bind _ = _
  simp only [Option.bind_some, if_true]
  rw [if_neg (by decide), h1, nI_1, md16 (by omega), show (qI t 6 r 1 (nI ((F + 1) % 16))).1 6 r 2 = nI (M + 1) by show up3 t.1 6 r 1 _ 6 r 2 = _; rw [up3_n _ _ (fun e => absurd e.2.2 (by decide))]; exact h2, nI_pred]
theorem head_y {r F M : Nat} (h1 : t.1 6 r 1 = nI F) (h2 : t.1 6 r 2 = nI (M + 1)) (hF : F < 16) (hM : M < 16) : u_X6_head U S N r t = some (t.2.1 6 r 0 F, t) := by
  unfold u_X6_head u_X6_head_20 u_X6_isEmpty u_X6_isEmpty_12
  rw [h2, if_pos (show ¬ nI (M + 1) = 0 from fun z => by have := (eqI (a := M + 1) (b := 0) (by omega) (by decide)).mp z; omega)]
  show (some ((0 : Int32), t)).bind _ = _
  simp only [Option.bind_some, if_true]
  rw [h1, rH_y (by decide) hF]
  rfl
theorem empty_y {r M : Nat} (h2 : t.1 6 r 2 = nI M) (hM : M < 2 ^ 31) : u_X6_isEmpty U S N r t = some (if M = 0 then 1 else 0, t) := by
  unfold u_X6_isEmpty u_X6_isEmpty_12
  rw [h2]
  by_cases h : M = 0
  · subst h; rfl
  · rw [if_pos (show ¬ nI M = 0 from fun z => h ((eqI (a := M) (b := 0) hM (by decide)).mp z)), if_neg h]; rfl
theorem Sim_dropK (H : Sim U S t s) {u : Nat} {F M : Nat} (hF : F < 16) (hM : M < 16) (e4 : ∀ i, i < M + 1 → t.2.1 6 (2 * u) 0 ((F + i) % 16) = s.2.2 49 u i) : Sim U S (qI (qI t 6 (2 * u) 1 (nI ((F + 1) % 16))) 6 (2 * u) 2 (nI M)) (sG (pA s 50 u (nI M)) 49 u (shf (s.2.2 49 u) 0 M)) := by
  refine SmG_upd H ?_ ?_ (fun _ _ _ _ => rfl) rfl rfl ?_ ?_
  · intro j hj
    have hr := SmG_q H j hj
    have keep : ∀ r, r ≠ 2 * u → (∀ c, (qI (qI t 6 (2 * u) 1 (nI ((F + 1) % 16))) 6 (2 * u) 2 (nI M)).1 6 r c = t.1 6 r c) := by
      intro r hr c
      show up3 (up3 t.1 6 (2 * u) 1 _) 6 (2 * u) 2 _ 6 r c = _
      rw [up3_n _ _ (fun e => hr e.2.1), up3_n _ _ (fun e => hr e.2.1)]
    by_cases hju : j = u
    · subst hju
      have mine : ring ((qI (qI t 6 (2 * j) 1 (nI ((F + 1) % 16))) 6 (2 * j) 2 (nI M)).1 6 (2 * j) 1) ((qI (qI t 6 (2 * j) 1 (nI ((F + 1) % 16))) 6 (2 * j) 2 (nI M)).1 6 (2 * j) 2) (t.2.1 6 (2 * j) 0) (upd (s.2.1 50) j (nI M) j) (up1 (s.2.2 49) j (shf (s.2.2 49 j) 0 M) j) := by
        have a1 : (qI (qI t 6 (2 * j) 1 (nI ((F + 1) % 16))) 6 (2 * j) 2 (nI M)).1 6 (2 * j) 1 = nI ((F + 1) % 16) := by
          show up3 (up3 t.1 6 (2 * j) 1 _) 6 (2 * j) 2 _ 6 (2 * j) 1 = _
          rw [up3_n _ _ (fun e => absurd e.2.2 (by decide)), up3_s]
        have a2 : (qI (qI t 6 (2 * j) 1 (nI ((F + 1) % 16))) 6 (2 * j) 2 (nI M)).1 6 (2 * j) 2 = nI M := up3_s _ _ _ _ _
        rw [a1, a2, upd_y, up1_s]
        exact ring_drop hF hM e4
      refine ⟨mine, ?_⟩
      have k2 := keep (2 * j + 1) (by omega)
      rw [k2, k2]
      exact hr.2
    · have k1 := keep (2 * j) (by omega)
      have k2 := keep (2 * j + 1) (by omega)
      rw [k1, k1, k2, k2]
      refine ⟨?_, hr.2⟩
      show ring _ _ _ (upd (s.2.1 50) u (nI M) j) (up1 (s.2.2 49) u _ j)
      rw [upd_n _ _ hju, up1_n _ _ hju]
      exact hr.1
  · intro ci j k hc
    show up3 (up3 t.1 6 (2 * u) 1 _) 6 (2 * u) 2 _ ci j k = _
    rw [up3_n _ _ (fun e => hc e.1), up3_n _ _ (fun e => hc e.1)]
  · intro k h1 h2
    show up1 s.2.1 50 _ k = _
    rw [up1_n _ _ h1]
  · intro k h1 h2
    show up1 s.2.2 49 _ k = _
    rw [up1_n _ _ h1]
theorem Sim_dropL (H : Sim U S t s) {u : Nat} {F M : Nat} (hF : F < 16) (hM : M < 16) (e4 : ∀ i, i < M + 1 → t.2.1 6 (2 * u + 1) 0 ((F + i) % 16) = s.2.2 52 u i) : Sim U S (qI (qI t 6 (2 * u + 1) 1 (nI ((F + 1) % 16))) 6 (2 * u + 1) 2 (nI M)) (sG (pA s 53 u (nI M)) 52 u (shf (s.2.2 52 u) 0 M)) := by
  refine SmG_upd H ?_ ?_ (fun _ _ _ _ => rfl) rfl rfl ?_ ?_
  · intro j hj
    have hr := SmG_q H j hj
    have keep : ∀ r, r ≠ 2 * u + 1 → (∀ c, (qI (qI t 6 (2 * u + 1) 1 (nI ((F + 1) % 16))) 6 (2 * u + 1) 2 (nI M)).1 6 r c = t.1 6 r c) := by
      intro r hr c
      show up3 (up3 t.1 6 (2 * u + 1) 1 _) 6 (2 * u + 1) 2 _ 6 r c = _
      rw [up3_n _ _ (fun e => hr e.2.1), up3_n _ _ (fun e => hr e.2.1)]
    by_cases hju : j = u
    · subst hju
      have mine : ring ((qI (qI t 6 (2 * j + 1) 1 (nI ((F + 1) % 16))) 6 (2 * j + 1) 2 (nI M)).1 6 (2 * j + 1) 1) ((qI (qI t 6 (2 * j + 1) 1 (nI ((F + 1) % 16))) 6 (2 * j + 1) 2 (nI M)).1 6 (2 * j + 1) 2) (t.2.1 6 (2 * j + 1) 0) (upd (s.2.1 53) j (nI M) j) (up1 (s.2.2 52) j (shf (s.2.2 52 j) 0 M) j) := by
        have a1 : (qI (qI t 6 (2 * j + 1) 1 (nI ((F + 1) % 16))) 6 (2 * j + 1) 2 (nI M)).1 6 (2 * j + 1) 1 = nI ((F + 1) % 16) := by
          show up3 (up3 t.1 6 (2 * j + 1) 1 _) 6 (2 * j + 1) 2 _ 6 (2 * j + 1) 1 = _
          rw [up3_n _ _ (fun e => absurd e.2.2 (by decide)), up3_s]
        have a2 : (qI (qI t 6 (2 * j + 1) 1 (nI ((F + 1) % 16))) 6 (2 * j + 1) 2 (nI M)).1 6 (2 * j + 1) 2 = nI M := up3_s _ _ _ _ _
        rw [a1, a2, upd_y, up1_s]
        exact ring_drop hF hM e4
      refine ⟨?_, mine⟩
      have k1 := keep (2 * j) (by omega)
      rw [k1, k1]
      exact hr.1
    · have k1 := keep (2 * j) (by omega)
      have k2 := keep (2 * j + 1) (by omega)
      rw [k1, k1, k2, k2]
      refine ⟨hr.1, ?_⟩
      show ring _ _ _ (upd (s.2.1 53) u (nI M) j) (up1 (s.2.2 52) u _ j)
      rw [upd_n _ _ hju, up1_n _ _ hju]
      exact hr.2
  · intro ci j k hc
    show up3 (up3 t.1 6 (2 * u + 1) 1 _) 6 (2 * u + 1) 2 _ ci j k = _
    rw [up3_n _ _ (fun e => hc e.1), up3_n _ _ (fun e => hc e.1)]
  · intro k h1 h2
    show up1 s.2.1 53 _ k = _
    rw [up1_n _ _ h2]
  · intro k h1 h2
    show up1 s.2.2 52 _ k = _
    rw [up1_n _ _ h2]
theorem go_r (hU : U < 7) {u M : Nat} (hu : u < U) (hM : M < 16) : ∀ (m k : Nat) (s : RS), s.2.1 50 u = nI M → M < k + m → k ≤ M → l_goes_12 U S N m (nI u) (nI k) s = some ((), sG s 49 u (shf (s.2.2 49 u) k M)) := by
  intro m
  induction m with
  | zero => intro k s _ h1 h2; omega
  | succ m ih =>
    intro k s hs h1 h2
    show h_goes_12 U S N (l_goes_12 U S N m) (nI u) (nI k) s = _
    unfold h_goes_12
    rw [rA_y (by omega) hu, hs]
    simp only [Option.bind_some]
    by_cases hk : k = M
    · subst hk
      rw [if_pos ((leI (by omega) (by omega)).mpr (Nat.le_refl _)), shf_e, sG_id]
    · rw [if_neg (fun z => by have := (leI (by omega) (by omega)).mp z; omega), rQ_y (by omega) hu, nI_1]
      simp only [Option.bind_some]
      rw [rG_y (by decide) (by omega)]
      simp only [Option.bind_some]
      rw [wG_y (by decide) (by omega)]
      simp only [Option.bind_some]
      rw [ih (k + 1) (pG s 49 u k (s.2.2 49 u (k + 1))) hs (by omega) (by omega), show pG s 49 u k (s.2.2 49 u (k + 1)) = sG s 49 u (upd (s.2.2 49 u) k (s.2.2 49 u (k + 1))) from rfl, sG_sG, sG_s, shf_s _ (by omega)]
/-- the first key goes -/
theorem goes_r (hU : U < 7) (hN : 100 < N) {u M : Nat} (hu : u < U) (hM : M < 16) (h : s.2.1 50 u = nI (M + 1)) : g_goes U S N (nI u) s = some ((), sG (pA s 50 u (nI M)) 49 u (shf (s.2.2 49 u) 0 M)) := by
  unfold g_goes
  rw [rA_y (by omega) hu, h]
  simp only [Option.bind_some]
  rw [nI_pred, wA_y (by omega) hu]
  simp only [Option.bind_some]
  exact go_r hU hu hM N 0 _ (upd_y _ _ _) (by omega) (by omega)
def endc (U S N : Nat) (u : Nat) (s : RS) : Option (Unit × RS) := (rA U s 42 (nI u)).bind fun v8 => if ¬ v8 = (3 : Int32) then some ((), s) else (g_becomesReady U S N (nI u) s).bind fun q9 => some ((), q9.2)
theorem ck_r (hU : U < 7) {u M : Nat} (hu : u < U) (hM : M < 16) : ∀ (m k : Nat) (s : RS), s.2.1 53 u = nI M → M < k + m → k ≤ M → l_clocks_106 U S N m (nI u) (nI k) s = endc U S N u (pA (sG s 52 u (shf (s.2.2 52 u) k M)) 56 u (s.1 66 + s.1 34)) := by
  intro m
  induction m with
  | zero => intro k s _ h1 h2; omega
  | succ m ih =>
    intro k s hs h1 h2
    show h_clocks_106 U S N (l_clocks_106 U S N m) (nI u) (nI k) s = _
    unfold h_clocks_106 g_clocks_170
    rw [rA_y (by omega) hu, hs]
    simp only [Option.bind_some]
    by_cases hk : k = M
    · subst hk
      rw [if_pos ((leI (by omega) (by omega)).mpr (Nat.le_refl _)), shf_e, sG_id, wA_y (by omega) hu]
      rfl
    · rw [if_neg (fun z => by have := (leI (by omega) (by omega)).mp z; omega), rQ_y (by omega) hu, nI_1]
      simp only [Option.bind_some]
      rw [rG_y (by decide) (by omega)]
      simp only [Option.bind_some]
      rw [wG_y (by decide) (by omega)]
      simp only [Option.bind_some]
      rw [ih (k + 1) (pG s 52 u k (s.2.2 52 u (k + 1))) hs (by omega) (by omega), show pG s 52 u k (s.2.2 52 u (k + 1)) = sG s 52 u (upd (s.2.2 52 u) k (s.2.2 52 u (k + 1))) from rfl, sG_sG, sG_s, shf_s _ (by omega)]
      rfl
theorem HJ_P {R : Rf} {v w : Nat → Int32} {P2 : Nat → Nat} (h : HJ U S R v w s qs T B P D) (hP : ∀ i, P i ≤ P2 i) : HJ U S R v w s qs T B P2 D := by
  obtain ⟨hW, hT, hB, hX, hS, hQ, hR, hO⟩ := h
  refine ⟨hW, ⟨hT.1, fun j hj => ?_⟩, hB, hX, hS, hQ, hR, hO⟩
  obtain ⟨n, h1, h2⟩ := hT.2 j hj
  exact ⟨n, Nat.le_trans h1 (hP j), h2⟩
theorem HJ_pd {R : Rf} {v w : Nat → Int32} {P2 : Nat → Nat} (h : HJ U S R v w s qs T B P D) {u n : Nat} (hn : n ≤ P2 u) (hP : ∀ i, P i ≤ P2 i) : HJ U S R v w (pA s 55 u (nI n)) qs T B P2 D := by
  obtain ⟨hW, hT, hB, hX, hS, hQ, hR, hO⟩ := h
  refine ⟨hW, ⟨hT.1, fun j hj => ?_⟩, hB, hX, hS, hQ, hR, hO⟩
  show ∃ m, m ≤ P2 j ∧ upd (s.2.1 55) u (nI n) j = nI m
  by_cases e : j = u
  · subst e; rw [upd_y]; exact ⟨n, hn, rfl⟩
  · rw [upd_n _ _ e]
    obtain ⟨m, h1, h2⟩ := hT.2 j hj
    exact ⟨m, Nat.le_trans h1 (hP j), h2⟩
/-- a letter is printed, where one is due -/
theorem al_pr (hU : U < 7) (hN : 100 < N) {P2 : Nat → Nat} (h : Inv U S t s qs T B P D) {u : Nat} (hu : u < U) (hP : ∀ i, P i ≤ P2 i) (hPu : P u + 1 ≤ P2 u) (hb : P2 u < 2 ^ 31) : ∃ t2 s2 qs2, u_X2_attend_24 U S N (some u) t = some ((), t2) ∧ g_clocks_28 U S N (nI u) s = some ((), s2) ∧ Inv U S t2 s2 qs2 T B P2 D := by
  obtain ⟨H, hQ, hJ⟩ := id h
  obtain ⟨F, M, hF, hM, e1, e2, e3, e4⟩ := (SmG_q H u hu).2
  unfold u_X2_attend_24 u_X2_attend_45 u_X2_attend_76 g_clocks_28 g_clocks_50
  simp only [Option.bind_some]
  rw [empty_y e2 (by omega), rA_y (by omega) hu, e3]
  simp only [Option.bind_some]
  by_cases h0 : M = 0
  · subst h0
    rw [if_pos rfl, if_pos (by decide), if_pos (show nI 0 = 0 from rfl)]
    exact ⟨t, s, qs, rfl, rfl, H, hQ, HJ_P hJ hP⟩
  · obtain ⟨M, rfl⟩ : ∃ m, M = m + 1 := ⟨M - 1, by omega⟩
    rw [if_neg h0, if_neg (by decide), if_neg (show ¬ nI (M + 1) = 0 from fun z => by have := (eqI (a := M + 1) (b := 0) (by omega) (by decide)).mp z; omega), rA_y (by omega) hu, show t.1 10 u 7 = s.2.1 56 u from H.1 (7, 56) (by decide) u, show t.1 2 0 7 = s.1 66 from H.2.2.1 (2, 7, 66) (by decide)]
    simp only [Option.bind_some]
    by_cases hd : s.2.1 56 u ≤ s.1 66
    · rw [if_pos hd, if_pos hd, rA_y (by omega) hu]
      obtain ⟨n, hn, hp⟩ := hJ.2.1.2 u hu
      unfold u_X10_print u_X10_print_26
      rw [show t.1 10 u 6 = s.2.1 55 u from H.1 (6, 55) (by decide) u, hp]
      simp only [Option.bind_some]
      have fin : ∀ (t1 : CS) (s1 : RS), Sim U S t1 s1 → isQ U t1 s1 qs → HJ U S t1.2.2.2.1 (f17 t1) (f18 t1) s1 qs T B P D → t1.1 = t.1 → t1.2.1 6 = t.2.1 6 → s1.1 = s.1 → s1.2.1 = s.2.1 → s1.2.2 52 = s.2.2 52 → ∃ t2 s2 qs2, ((some (qI t1 10 u 6 (t1.1 10 u 6 + 1))).bind fun μ2 => (u_X6_drop U S N (2 * u + 1) μ2).bind fun q4 => some ((), q4.2)).bind (fun q6 => (some (qI q6.2 10 u 7 ((q6.2.1 2 0 7) + (q6.2.1 2 0 6)))).bind fun μ10 => if ¬ (μ10.1 10 u 8) = (3 : Int32) then some ((), μ10) else (u_X2_makeReady U S N (some u) μ10).bind fun q12 => some ((), q12.2)) = some ((), t2) ∧ g_clocks_84 U S N (nI u) s1 = some ((), s2) ∧ Inv U S t2 s2 qs2 T B P2 D := by
        intro t1 s1 G1 G2 G3 a1 a2 a3 a4 a5
        have p55 : s1.2.1 55 u = nI n := by rw [a4]; exact hp
        have p53 : s1.2.1 53 u = nI (M + 1) := by rw [a4]; exact e3
        have c6 : t1.1 10 u 6 = nI n := by rw [G1.1 (6, 55) (by decide) u]; exact p55
        simp only [Option.bind_some]
        rw [c6, nI_1]
        have b1 : (qI t1 10 u 6 (nI (n + 1))).1 6 (2 * u + 1) 1 = nI F := by show t1.1 6 (2 * u + 1) 1 = nI F; rw [a1]; exact e1
        have b2 : (qI t1 10 u 6 (nI (n + 1))).1 6 (2 * u + 1) 2 = nI (M + 1) := by show t1.1 6 (2 * u + 1) 2 = nI (M + 1); rw [a1]; exact e2
        rw [drop_y b1 b2 hF (by omega)]
        simp only [Option.bind_some]
        unfold g_clocks_84
        rw [rA_y (by omega) hu, p55]
        simp only [Option.bind_some]
        rw [wA_y (by omega) hu, nI_1]
        simp only [Option.bind_some]
        rw [rA_y (by omega) hu, show (pA s1 55 u (nI (n + 1))).2.1 53 u = nI (M + 1) from p53]
        simp only [Option.bind_some]
        rw [wA_y (by omega) hu, nI_pred, show (0 : Int32) = nI 0 from rfl]
        simp only [Option.bind_some]
        have hck : l_clocks_106 U S N N (nI u) (nI 0) (pA (pA s1 55 u (nI (n + 1))) 53 u (nI M)) = endc U S N u (pA (sG (pA (pA s1 55 u (nI (n + 1))) 53 u (nI M)) 52 u (shf (s1.2.2 52 u) 0 M)) 56 u (s1.1 66 + s1.1 34)) := ck_r hU hu (by omega) N 0 _ (upd_y _ _ _) (by omega) (by omega)
        rw [hck]
        have hSim1 : Sim U S (qI t1 10 u 6 (nI (n + 1))) (pA s1 55 u (nI (n + 1))) := Sim_U G1 (q := (6, 55)) (by decide) u _
        have hSim2 := Sim_dropL hSim1 (u := u) (F := F) (M := M) hF (by omega) (fun i hi => by
          show t1.2.1 6 (2 * u + 1) 0 ((F + i) % 16) = s1.2.2 52 u i
          rw [a2, a5]
          exact e4 i hi)
        have hSim3 := Sim_U hSim2 (q := (7, 56)) (by decide) u (s1.1 66 + s1.1 34)
        have et : (qI (qI (qI t1 10 u 6 (nI (n + 1))) 6 (2 * u + 1) 1 (nI ((F + 1) % 16))) 6 (2 * u + 1) 2 (nI M)).1 2 0 7 + (qI (qI (qI t1 10 u 6 (nI (n + 1))) 6 (2 * u + 1) 1 (nI ((F + 1) % 16))) 6 (2 * u + 1) 2 (nI M)).1 2 0 6 = s1.1 66 + s1.1 34 := by
          rw [show (qI (qI (qI t1 10 u 6 (nI (n + 1))) 6 (2 * u + 1) 1 (nI ((F + 1) % 16))) 6 (2 * u + 1) 2 (nI M)).1 2 0 7 = t1.1 2 0 7 from rfl, show (qI (qI (qI t1 10 u 6 (nI (n + 1))) 6 (2 * u + 1) 1 (nI ((F + 1) % 16))) 6 (2 * u + 1) 2 (nI M)).1 2 0 6 = t1.1 2 0 6 from rfl, G1.2.2.1 (2, 7, 66) (by decide), G1.2.2.1 (2, 6, 34) (by decide)]
        rw [et]
        have hI : Inv U S (qI (qI (qI (qI t1 10 u 6 (nI (n + 1))) 6 (2 * u + 1) 1 (nI ((F + 1) % 16))) 6 (2 * u + 1) 2 (nI M)) 10 u 7 (s1.1 66 + s1.1 34)) (pA (sG (pA (pA s1 55 u (nI (n + 1))) 53 u (nI M)) 52 u (shf (s1.2.2 52 u) 0 M)) 56 u (s1.1 66 + s1.1 34)) qs T B P2 D := by
          refine ⟨hSim3, G2, ?_⟩
          refine HI_q (by decide) (by decide) ?_
          show HJ U S t1.2.2.2.1 (f17 (qI t1 10 u 6 (nI (n + 1)))) (f18 (qI t1 10 u 6 (nI (n + 1)))) _ _ _ _ _ _
          rw [f17_n _ _ _ (by decide), f18_n _ _ _ (by decide)]
          exact HJ_pd G3 (u := u) (n := n + 1) (by omega) hP
        have e42 : (qI (qI (qI (qI t1 10 u 6 (nI (n + 1))) 6 (2 * u + 1) 1 (nI ((F + 1) % 16))) 6 (2 * u + 1) 2 (nI M)) 10 u 7 (s1.1 66 + s1.1 34)).1 10 u 8 = s.2.1 42 u := by
          rw [hSim3.1 (8, 42) (by decide) u]
          show s1.2.1 42 u = _
          rw [a4]
        unfold endc
        rw [rA_y (by omega) hu]
        simp only [Option.bind_some]
        rw [e42, show (pA (sG (pA (pA s1 55 u (nI (n + 1))) 53 u (nI M)) 52 u (shf (s1.2.2 52 u) 0 M)) 56 u (s1.1 66 + s1.1 34)).2.1 42 u = s.2.1 42 u by show s1.2.1 42 u = _; rw [a4]]
        by_cases h3 : s.2.1 42 u = 3
        · rw [if_neg (not_not_intro h3), if_neg (not_not_intro h3)]
          obtain ⟨c1, c2, c3⟩ := Inv_rd (N := N) hU hI hu (by show s1.2.1 42 u ≠ 1; rw [a4, h3]; decide) (fun _ => by show s1.2.1 42 u ≠ 5; rw [a4, h3]; decide)
          rw [c1]
          rw [c2]
          exact ⟨_, _, _, rfl, rfl, c3⟩
        · rw [if_pos h3, if_pos h3]
          exact ⟨_, _, _, rfl, rfl, hI⟩
      by_cases h5 : (500 : Int32) ≤ nI n
      · rw [if_pos h5, if_pos h5]
        have := fin t s H hQ hJ rfl rfl rfl rfl rfl
        simp only [Option.bind_some] at this
        rw [show t.1 10 u 6 = nI n by rw [H.1 (6, 55) (by decide) u]; exact hp] at this
        exact this
      · have hn5 : n < 500 := by
          have := mt (leI (a := 500) (b := n) (by decide) (by omega)).mpr h5
          omega
        rw [if_neg h5, if_neg h5, head_y e1 e2 hF (by omega), rQ_y (by omega) hu]
        simp only [Option.bind_some]
        rw [wH_y (by decide) hn5]
        simp only [Option.bind_some]
        rw [show rG 16 s 52 u 0 = some (s.2.2 52 u 0) from rG_y (n := 16) (i := 0) (by decide) (by decide) s 52 u]
        simp only [Option.bind_some]
        rw [wG_y (by decide) hn5]
        have hv : t.2.1 6 (2 * u + 1) 0 F = s.2.2 52 u 0 := by
          have := e4 0 (by omega)
          rw [show (F + 0) % 16 = F by omega] at this
          exact this
        rw [hv]
        simp only [Option.bind_some]
        have := fin (qA t 10 u 3 n (s.2.2 52 u 0)) (pG s 54 u n (s.2.2 52 u 0)) (Sim_C H (q := (10, 3, 54)) (by decide) u n _) hQ hJ rfl (funext fun a => funext fun b => rfl) rfl rfl rfl
        simp only [Option.bind_some] at this
        exact this
    · rw [if_neg hd, if_neg hd]
      exact ⟨t, s, qs, rfl, rfl, H, hQ, HJ_P hJ hP⟩
def att (U S N : Nat) (u : Nat) (t : CS) : Option (Unit × CS) := if (t.1 10 u 8) = (4 : Int32) then u_X2_attend U S N (some u) t else if (t.1 6 (2 * u + 1) 2) ≤ 0 then some ((), t) else u_X2_attend U S N (some u) t
theorem al_clk (hU : U < 7) (hN : 100 < N) {P2 : Nat → Nat} (h : Inv U S t s qs T B P D) {u : Nat} (hu : u < U) (hP : ∀ i, P i ≤ P2 i) (hPu : P u + 1 ≤ P2 u) (hb : P2 u < 2 ^ 31) : ∃ t2 s2 qs2, att U S N u t = some ((), t2) ∧ g_clocks U S N (nI u) s = some ((), s2) ∧ Inv U S t2 s2 qs2 T B P2 D := by
  obtain ⟨H, hQ, hJ⟩ := id h
  have e8 : t.1 10 u 8 = s.2.1 42 u := H.1 (8, 42) (by decide) u
  unfold att u_X2_attend g_clocks
  rw [rA_y (by omega) hu]
  simp only [Option.bind_some, e8]
  by_cases h4 : s.2.1 42 u = 4
  · rw [if_pos h4, if_neg (not_not_intro h4), if_neg (not_not_intro h4), rA_y (by omega) hu, show t.1 10 u 16 = s.2.1 57 u from H.1 (16, 57) (by decide) u, show t.1 2 0 7 = s.1 66 from H.2.2.1 (2, 7, 66) (by decide)]
    simp only [Option.bind_some]
    by_cases hd : s.1 66 < s.2.1 57 u
    · rw [if_pos hd, if_pos hd]
      exact al_pr hU hN h hu hP hPu hb
    · rw [if_neg hd, if_neg hd]
      obtain ⟨c1, c2, c3⟩ := Inv_rd (N := N) hU h hu (by rw [h4]; decide) (fun _ => by rw [h4]; decide)
      rw [c1, c2]
      simp only [Option.bind_some]
      exact al_pr hU hN c3 hu hP hPu hb
  · rw [if_neg h4, if_pos h4, if_pos h4]
    obtain ⟨F, M, hF, hM, e1, e2, e3, e4⟩ := (SmG_q H u hu).2
    by_cases h0 : t.1 6 (2 * u + 1) 2 ≤ 0
    · rw [if_pos h0]
      have hM0 : M = 0 := by
        rw [e2] at h0
        have := (leI (a := M) (b := 0) (by omega) (by decide)).mp h0
        omega
      refine ⟨t, s, qs, rfl, ?_, H, hQ, HJ_P hJ hP⟩
      unfold g_clocks_28 g_clocks_50
      rw [rA_y (by omega) hu, e3, hM0]
      rfl
    · rw [if_neg h0]
      exact al_pr hU hN h hu hP hPu hb
end
