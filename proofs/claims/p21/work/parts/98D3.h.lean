/-! LAYER 3, the house: set, deposit, key, mount -/
section
variable {U S N : Nat} {t : CS} {s : RS} {qs : List Nat} {T B D : Nat} {P : Nat → Nat}
theorem HI_q {u k : Nat} {x : Int32} {s2 : RS} (h17 : k ≠ 17) (h18 : k ≠ 18) (h : HJ U S t.2.2.2.1 (f17 t) (f18 t) s2 qs T B P D) : HI U S (qI t 10 u k x) s2 qs T B P D := by
  show HJ U S t.2.2.2.1 (f17 (qI t 10 u k x)) (f18 (qI t 10 u k x)) s2 qs T B P D
  rw [f17_n _ _ _ h17, f18_n _ _ _ h18]
  exact h
theorem iv_set (hU0 : 0 < U) (hU : U < 7) (h : Inv U S t s qs T B P D) (x1 x2 : Int32) : ∃ x t2 s2, u_X11_set U S N x1 x2 t = some (x, t2) ∧ g_set U S N x1 x2 s = some (x, s2) ∧ Inv U S t2 s2 qs T B P D := by
  obtain ⟨H, hQ, hJ⟩ := id h
  obtain ⟨x, t2, s2, e1, e2, e3, e4⟩ := al_set (N := N) hU0 hU H x1 x2
  refine ⟨x, t2, s2, e1, e2, ?_⟩
  rcases e4 with ⟨rfl, rfl⟩ | ⟨j, p, hj, hp, rfl, rfl⟩
  · exact h
  · exact ⟨e3, hQ, HI_q (by decide) (by decide) (HJ_sw hJ j (w12_n hp))⟩
theorem iv_deposit (hU0 : 0 < U) (hU : U < 7) (hS0 : 0 < S) (hS : S < 5) (h : Inv U S t s qs T B P D) (x1 x2 x3 : Int32) : ∃ x t2 s2, u_X11_deposit U S N x1 x2 x3 t = some (x, t2) ∧ g_deposit U S N x1 x2 x3 s = some (x, s2) ∧ Inv U S t2 s2 qs T B P D := by
  obtain ⟨H, hQ, hJ⟩ := id h
  obtain ⟨x, t2, s2, e1, e2, e3, e4⟩ := al_deposit (N := N) hU0 hU hS0 hS H x1 x2 x3
  refine ⟨x, t2, s2, e1, e2, ?_⟩
  rcases e4 with ⟨rfl, rfl⟩ | ⟨j, a, v, hj, ha, hv, rfl, rfl⟩ | ⟨k, a, v, hk, ha, hv, rfl, rfl, j, hj, ho⟩
  · exact h
  · exact ⟨e3, hQ, HJ_drum hJ j a (w12_n hv)⟩
  · exact ⟨e3, hQ, HJ_f39 (HJ_core hJ k a (w12_n hv)) 1 (HJ_own hJ hj hk ho)⟩
theorem SmG_q (H : Sim U S t s) : SmG U t s := H.2.2.2.2.2.2.2.2.1
/-- a key comes behind the others -/
theorem Sim_key (H : Sim U S t s) {u : Nat} {F M : Nat} (e1 : t.1 6 (2 * u) 1 = nI F) (e3 : s.2.1 50 u = nI M) (hF : F < 16) (hM : M < 16) (e4 : ∀ i, i < M → t.2.1 6 (2 * u) 0 ((F + i) % 16) = s.2.2 49 u i) (c : Int32) : Sim U S (qI (qA t 6 (2 * u) 0 ((F + M) % 16) c) 6 (2 * u) 2 (nI (M + 1))) (pA (pG s 49 u M c) 50 u (nI (M + 1))) := by
  refine SmG_upd H ?_ ?_ ?_ rfl rfl ?_ ?_
  · intro j hj
    have hr := SmG_q H j hj
    by_cases hju : j = u
    · subst hju
      refine ⟨?_, ?_⟩
      · have := ring_app (n := 0) (m := 0) (f := t.1 6 (2 * j) 1) (a := t.2.1 6 (2 * j) 0) (b := s.2.2 49 j) hF hM e1 e4 c
        show ring (up3 t.1 6 (2 * j) 2 (nI (M + 1)) 6 (2 * j) 1) (up3 t.1 6 (2 * j) 2 (nI (M + 1)) 6 (2 * j) 2) (up3 t.2.1 6 (2 * j) 0 (upd (t.2.1 6 (2 * j) 0) ((F + M) % 16) c) 6 (2 * j) 0) (upd (s.2.1 50) j (nI (M + 1)) j) (up1 (s.2.2 49) j (upd (s.2.2 49 j) M c) j)
        rw [up3_n _ _ (fun e => absurd e.2.2 (by decide)), up3_s, up3_s, upd_y, up1_s]
        exact this
      · show ring (up3 t.1 6 (2 * j) 2 (nI (M + 1)) 6 (2 * j + 1) 1) (up3 t.1 6 (2 * j) 2 (nI (M + 1)) 6 (2 * j + 1) 2) (up3 t.2.1 6 (2 * j) 0 _ 6 (2 * j + 1) 0) (s.2.1 53 j) (s.2.2 52 j)
        rw [up3_n _ _ (fun e => absurd e.2.1 (by omega)), up3_n _ _ (fun e => absurd e.2.1 (by omega)), up3_n _ _ (fun e => absurd e.2.1 (by omega))]
        exact hr.2
    · refine ⟨?_, ?_⟩
      · show ring (up3 t.1 6 (2 * u) 2 (nI (M + 1)) 6 (2 * j) 1) (up3 t.1 6 (2 * u) 2 (nI (M + 1)) 6 (2 * j) 2) (up3 t.2.1 6 (2 * u) 0 _ 6 (2 * j) 0) (upd (s.2.1 50) u (nI (M + 1)) j) (up1 (s.2.2 49) u _ j)
        rw [up3_n _ _ (fun e => absurd e.2.1 (by omega)), up3_n _ _ (fun e => absurd e.2.1 (by omega)), up3_n _ _ (fun e => absurd e.2.1 (by omega)), upd_n _ _ hju, up1_n _ _ hju]
        exact hr.1
      · show ring (up3 t.1 6 (2 * u) 2 (nI (M + 1)) 6 (2 * j + 1) 1) (up3 t.1 6 (2 * u) 2 (nI (M + 1)) 6 (2 * j + 1) 2) (up3 t.2.1 6 (2 * u) 0 _ 6 (2 * j + 1) 0) (s.2.1 53 j) (s.2.2 52 j)
        rw [up3_n _ _ (fun e => absurd e.2.1 (by omega)), up3_n _ _ (fun e => absurd e.2.1 (by omega)), up3_n _ _ (fun e => absurd e.2.1 (by omega))]
        exact hr.2
  · intro ci j k hc
    show up3 t.1 6 _ _ _ ci j k = _
    rw [up3_n _ _ (fun e => hc e.1)]
  · intro ci j k hc
    show up3 t.2.1 6 _ _ _ ci j k = _
    rw [up3_n _ _ (fun e => hc e.1)]
  · intro k h1 h2
    show up1 s.2.1 50 _ k = _
    rw [up1_n _ _ h1]
  · intro k h1 h2
    show up1 s.2.2 49 _ k = _
    rw [up1_n _ _ h1]
theorem k7_n {n : Nat} (h : n < 128) : K7 (nI n) := ⟨n, h, rfl⟩
theorem al_key (hU0 : 0 < U) (hU : U < 7) (h : Inv U S t s qs T B P D) (x1 x2 : Int32) : ∃ x t2 s2 qs2, u_X11_key U S N x1 x2 t = some (x, t2) ∧ g_key U S N x1 x2 s = some (x, s2) ∧ Inv U S t2 s2 qs2 T B P D := by
  obtain ⟨H, hQ, hJ⟩ := id h
  have h31 := H.2.2.2.2.1.1.1
  unfold u_X11_key u_X11_key_23 g_key g_key_18 g_key_82
  rcases in_cases U (by omega) x1 with ⟨j, hj, rfl⟩ | hx
  · rw [isU_y h31 hU hj, usA_y hU hj]
    simp only [Option.bind_some, vl_y hj, reduceCtorEq, if_false, o10]
    rcases in_cases 128 (by decide) x2 with ⟨c, hc, rfl⟩ | hy
    · rw [show (127 : Int32) = nI (128 - 1) from rfl, in_y (by decide) hc, if_neg (nI_nn (by omega)), if_pos ((leI (by omega) (by decide)).mpr (by omega))]
      simp only [Option.bind_some, o10, not_false_eq_true, if_true]
      obtain ⟨F, M, hF, hM, e1, e2, e3, e4⟩ := (H.2.2.2.2.2.2.2.2.1 j hj).1
      have e8 : t.1 10 j 8 = s.2.1 42 j := H.1 (8, 42) (by decide) j
      unfold u_X2_press u_X2_press_43
      simp only [Option.bind_some]
      rw [full_y e2 hM, rA_y (by omega) hj, e3]
      simp only [Option.bind_some]
      by_cases hf : M = 16
      · subst hf
        rw [if_pos rfl, if_neg (show ¬ ¬ nI 16 = (16 : Int32) from not_not_intro rfl), rA_y (by omega) hj]
        simp only [Option.bind_some, o10, if_false]
        rw [wA_y (by omega) hj, show t.1 10 j 15 = s.2.1 51 j from H.1 (15, 51) (by decide) j]
        exact ⟨0, _, _, qs, rfl, rfl, Sim_U H (q := (15, 51)) (by decide) j _, hQ, HI_q (by decide) (by decide) hJ⟩
      · rw [if_neg hf, if_pos (show ¬ nI M = (16 : Int32) from fun z => hf ((eqI (b := 16) (by omega) (by decide)).mp z)), rQ_y (by omega) hj, app_y e1 e2 hF (by omega)]
        simp only [Option.bind_some, if_true]
        rw [wG_y (by decide) (by omega)]
        simp only [Option.bind_some]
        rw [rA_y (by omega) hj, show (pG s 49 j M (nI c)).2.1 50 j = nI M from e3]
        simp only [Option.bind_some]
        rw [wA_y (by omega) hj]
        simp only [Option.bind_some]
        rw [rA_y (by omega) hj, nI_1]
        simp only [Option.bind_some]
        have hI : Inv U S (qI (qA t 6 (2 * j) 0 ((F + M) % 16) (nI c)) 6 (2 * j) 2 (nI (M + 1))) (pA (pG s 49 j M (nI c)) 50 j (nI (M + 1))) qs T B P D := ⟨Sim_key H e1 e3 hF (by omega) e4 (nI c), hQ, HJ_keys hJ j M (k7_n hc)⟩
        rw [show (pA (pG s 49 j M (nI c)) 50 j (nI (M + 1))).2.1 42 j = s.2.1 42 j from rfl, show (qI (qA t 6 (2 * j) 0 ((F + M) % 16) (nI c)) 6 (2 * j) 2 (nI (M + 1))).1 10 j 8 = s.2.1 42 j from e8]
        by_cases h2 : s.2.1 42 j = 2
        · rw [if_neg (not_not_intro h2), if_neg (not_not_intro h2)]
          obtain ⟨a1, a2, a3⟩ := Inv_rd (N := N) hU hI hj (by show s.2.1 42 j ≠ 1; rw [h2]; decide) (fun _ => by show s.2.1 42 j ≠ 5; rw [h2]; decide)
          rw [a1, a2]
          exact ⟨1, _, _, _, rfl, rfl, a3⟩
        · rw [if_pos h2, if_pos h2]
          exact ⟨1, _, _, qs, rfl, rfl, hI⟩
    · rw [show (127 : Int32) = nI (128 - 1) from rfl, in_n (by decide) (by decide) hy]
      simp only [Option.bind_some, not_true_eq_false, if_false]
      rcases hy with h3 | h3
      · rw [if_pos h3]; exact ⟨0, t, s, qs, rfl, rfl, h⟩
      · rw [if_neg (out_ge (by decide) (by decide) h3).2.1, if_neg (fun z => by have := (out_ge (n := 128) (by decide) (by decide) h3).1; rw [Int32.lt_iff_toInt_lt] at this; rw [Int32.le_iff_toInt_le] at z; omega)]; exact ⟨0, t, s, qs, rfl, rfl, h⟩
  · rw [isU_n h31 hU0 hU hx, usA_n hU0 hU hx]
    exact ⟨0, t, s, qs, rfl, rfl, h⟩
/-- who has which slot -/
theorem Sim_ref (H : Sim U S t s) {u k : Nat} (o1 o2 : Option Nat) (v1 : vd S o1) (v2 : vd U o2) : Sim U S (qR (qR t 10 u 19 o1) 8 k 2 o2) (pA (pA s 41 u (rf o1)) 38 k (rf o2)) := by
  obtain ⟨hA, hSs, hB, hC, hR, hL, hK, hQ, hG, hM, hT⟩ := H
  have f5 : ∀ r, r ≠ 41 → r ≠ 38 → (pA (pA s 41 u (rf o1)) 38 k (rf o2)).2.1 r = s.2.1 r := by
    intro r h1 h2
    show up1 (up1 s.2.1 41 _) 38 _ r = _
    rw [up1_n _ _ h2, up1_n _ _ h1]
  refine ⟨?_, ?_, hB, hC, ?_, hL, hK, hQ, hG, hM, hT⟩
  · intro p hp j
    have hne : p.2 ≠ 41 ∧ p.2 ≠ 38 := by
      have : ∀ p, p ∈ mU → p.2 ≠ 41 ∧ p.2 ≠ 38 := by decide
      exact this p hp
    rw [f5 _ hne.1 hne.2]
    exact hA p hp j
  · intro p hp j
    have hne : p.2 ≠ 41 ∧ p.2 ≠ 38 := by
      have : ∀ p, p ∈ mS → p.2 ≠ 41 ∧ p.2 ≠ 38 := by decide
      exact this p hp
    rw [f5 _ hne.1 hne.2]
    exact hSs p hp j
  · refine ⟨hR.1, fun j hj => ?_, fun j hj => ?_, hR.2.2.2⟩
    · obtain ⟨a, b, c⟩ := hR.2.1 j hj
      show t.1 10 j 0 = nI j ∧ upd (s.2.1 41) u (rf o1) j = rf (up3 (up3 t.2.2.2.1 10 u 19 o1) 8 k 2 o2 10 j 19) ∧ vd S (up3 (up3 t.2.2.2.1 10 u 19 o1) 8 k 2 o2 10 j 19)
      rw [up3_n _ _ (fun e => absurd e.1 (by decide))]
      by_cases hju : j = u
      · subst hju
        rw [up3_s, upd_y]
        exact ⟨a, rfl, v1⟩
      · rw [up3_n _ _ (fun e => hju e.2.1), upd_n _ _ hju]
        exact ⟨a, b, c⟩
    · obtain ⟨a, b, c⟩ := hR.2.2.1 j hj
      show t.1 8 j 0 = nI j ∧ upd (s.2.1 38) k (rf o2) j = rf (up3 (up3 t.2.2.2.1 10 u 19 o1) 8 k 2 o2 8 j 2) ∧ vd U (up3 (up3 t.2.2.2.1 10 u 19 o1) 8 k 2 o2 8 j 2)
      by_cases hjk : j = k
      · subst hjk
        rw [up3_s, upd_y]
        exact ⟨a, rfl, v2⟩
      · rw [up3_n _ _ (fun e => hjk e.2.1), up3_n _ _ (fun e => absurd e.1 (by decide)), upd_n _ _ hjk]
        exact ⟨a, b, c⟩
/-- slot k of u becomes nobody's -/
def rlC (t : CS) (u k : Nat) : CS := qI (qI (qR (qR t 10 u 19 none) 8 k 2 none) 8 k 3 0) 8 k 4 0
def rlR (s : RS) (u k : Nat) : RS := pA (pA (pA (pA s 41 u (-1)) 38 k (-1)) 39 k 0) 40 k 0
theorem Sim_rl (H : Sim U S t s) (u k : Nat) : Sim U S (rlC t u k) (rlR s u k) := Sim_S (Sim_S (Sim_ref H (u := u) (k := k) none none (vd_n _) (vd_n _)) (q := (3, 39)) (by decide) k 0) (q := (4, 40)) (by decide) k 0
theorem HJ_rl {R : Rf} {v w : Nat → Int32} (h : HJ U S R v w s qs T B P D) {u k : Nat} (hu : u < U) (hk : k < S) (hr : R 10 u 19 = some k) (h5 : s.2.1 42 u ≠ 5) (hru : R 2 0 8 ≠ some u) (hc : D < 2 → R 1 0 1 ≠ some u) : HJ U S (up3 (up3 R 10 u 19 none) 8 k 2 none) v w (rlR s u k) qs T B P D := by
  obtain ⟨hW, hT, hB, hX, hS, hQ, hR, hO⟩ := h
  have hrk : R 8 k 2 = some u := (hS.1 u k hu hk).mp hr
  have g10 : ∀ j, j ≠ u → up3 (up3 R 10 u 19 none) 8 k 2 none 10 j 19 = R 10 j 19 := by
    intro j hj
    rw [up3_n _ _ (fun e => absurd e.1 (by decide)), up3_n _ _ (fun e => hj e.2.1)]
  have g10u : up3 (up3 R 10 u 19 none) 8 k 2 none 10 u 19 = none := by
    rw [up3_n _ _ (fun e => absurd e.1 (by decide)), up3_s]
  have g8 : ∀ j, j ≠ k → up3 (up3 R 10 u 19 none) 8 k 2 none 8 j 2 = R 8 j 2 := by
    intro j hj
    rw [up3_n _ _ (fun e => hj e.2.1), up3_n _ _ (fun e => absurd e.1 (by decide))]
  have g8k : up3 (up3 R 10 u 19 none) 8 k 2 none 8 k 2 = none := by rw [up3_s]
  refine ⟨hW, hT, ?_, hX, ?_, hQ, ?_, ?_⟩
  · intro j hj e
    have hju : j ≠ u := fun z => h5 (z ▸ e)
    rw [g10 j hju]
    exact hB j hj e
  · refine ⟨?_, ?_⟩
    rotate_left
    · intro j hj e
      by_cases ek : j = k
      · subst ek
        exact ⟨upd_y _ _ _, upd_y _ _ _⟩
      · rw [g8 _ ek] at e
        have := hS.2 j hj e
        refine ⟨?_, ?_⟩
        · show upd (s.2.1 39) k 0 j = 0
          rw [upd_n _ _ ek]; exact this.1
        · show upd (s.2.1 40) k 0 j = 0
          rw [upd_n _ _ ek]; exact this.2
    intro u2 k2 hu2 hk2
    by_cases eu : u2 = u
    · subst eu
      rw [g10u]
      by_cases ek : k2 = k
      · subst ek; rw [g8k]; simp
      · rw [g8 _ ek]
        constructor
        · intro z; cases z
        · intro z
          have := (hS.1 u2 k2 hu2 hk2).mpr z
          rw [hr] at this
          exact absurd (Option.some.inj this).symm ek
    · rw [g10 _ eu]
      by_cases ek : k2 = k
      · subst ek; rw [g8k]
        constructor
        · intro z
          have := (hS.1 u2 k2 hu2 hk2).mp z
          rw [hrk] at this
          exact absurd (Option.some.inj this).symm eu
        · intro z; cases z
      · rw [g8 _ ek]; exact hS.1 u2 k2 hu2 hk2
  · intro u2 hu2
    have hne : u2 ≠ u := fun z => hru (z ▸ hu2)
    obtain ⟨c1, c2, c3⟩ := hR u2 hu2
    refine ⟨c1, c2, ?_⟩
    rw [g10 _ hne]
    exact c3
  · intro hD u2 k2 e1 e2
    have hne : u2 ≠ u := fun z => hc hD (z ▸ e1)
    rw [g10 _ hne]
    rcases hO hD u2 k2 e1 e2 with d | ⟨d1, d2, d3, d4⟩ | d
    · exact Or.inl d
    · refine Or.inr (Or.inl ⟨d1, d2, ?_, d4⟩)
      by_cases ek : k2 = k
      · subst ek; exact g8k
      · rw [g8 _ ek]; exact d3
    · exact Or.inr (Or.inr d)
theorem rl_c {u k : Nat} (hu : u < U) (hr : t.2.2.2.1 8 k 2 = some u) : u_X8_release U S N k t = some ((), rlC t u k) := by
  unfold u_X8_release u_X8_release_15 qZ
  rw [hr]
  simp only [vl_y hu, Option.bind_some, reduceCtorEq, if_false, true_or, if_true]
  rfl
theorem rl_r (hU : U < 7) (hS5 : S < 5) {u k : Nat} (hu : u < U) (hk : k < S) (hr : s.2.1 38 k = nI u) : g_nobodys U S N (nI k) s = some ((), rlR s u k) := by
  unfold g_nobodys
  rw [rA_y (by omega) hk, hr]
  simp only [Option.bind_some]
  rw [wA_y (by omega) hu]
  simp only [Option.bind_some]
  rw [wA_y (by omega) hk]
  simp only [Option.bind_some]
  rw [wZ_y (by omega) hk _ _ (Or.inl rfl)]
  simp only [Option.bind_some]
  rw [wZ_y (by omega) hk _ _ (Or.inl rfl)]
  rfl
theorem Inv_rl (h : Inv U S t s qs T B P D) {u k : Nat} (hu : u < U) (hk : k < S) (hr : t.2.2.2.1 10 u 19 = some k) (h5 : s.2.1 42 u ≠ 5) (hru : t.2.2.2.1 2 0 8 ≠ some u) (hc : D < 2 → t.2.2.2.1 1 0 1 ≠ some u) : Inv U S (rlC t u k) (rlR s u k) qs T B P D := by
  obtain ⟨H, hQ, hJ⟩ := h
  exact ⟨Sim_rl H u k, hQ, HJ_rl hJ hu hk hr h5 hru hc⟩
theorem SmC_f {q : Nat × Nat × Nat} (H : SmC t s) (hq : q ∈ mC) (u : Nat) (f : Nat → Int32) : SmC (qF t q.1 u q.2.1 f) (sG s q.2.2 u f) := by
  intro p hp j i
  show up3 t.2.1 q.1 u q.2.1 f p.1 j p.2.1 i = up1 s.2.2 q.2.2 (up1 (s.2.2 q.2.2) u f) p.2.2 j i
  have inj : ∀ p, p ∈ mC → ∀ q, q ∈ mC → (p.2.2 = q.2.2 ↔ (p.1 = q.1 ∧ p.2.1 = q.2.1)) := by decide
  by_cases e : p.2.2 = q.2.2
  · have e2 := (inj p hp q hq).mp e
    rw [e, up1_s, e2.1, e2.2]
    by_cases ej : j = u
    · subst ej; rw [up3_s, up1_s]
    · rw [up3_n _ _ (fun z => ej z.2.1), up1_n _ _ ej]
      have := H p hp j i
      rw [e2.1, e2.2, e] at this
      exact this
  · rw [up1_n _ _ e, up3_n _ _ (fun z => e ((inj p hp q hq).mpr ⟨z.1, z.2.2⟩))]
    exact H p hp j i
theorem Sim_F (H : Sim U S t s) {q : Nat × Nat × Nat} (hq : q ∈ mC) (u : Nat) (f : Nat → Int32) : Sim U S (qF t q.1 u q.2.1 f) (sG s q.2.2 u f) := by
  obtain ⟨hA, hSs, hB, hC, hR, hL, hK, hQ, hG, hM, hT⟩ := H
  have hq2 : q = (10, 1, 36) ∨ q = (10, 2, 37) ∨ q = (10, 3, 54) ∨ q = (8, 1, 35) := by
    simp only [mC, List.mem_cons, List.not_mem_nil, or_false] at hq
    exact hq
  have hC2 := SmC_f hC hq u f
  rcases hq2 with rfl | rfl | rfl | rfl <;> exact ⟨hA, hSs, hB, hC2, hR, hL, hK, hQ, hG, hM, hT⟩
theorem rmz_mk (c : Int32) : rmz (mk c) = mk0 c := by
  unfold rmz mk mk0
  by_cases h : c = -1
  · rw [if_pos h, if_pos h, if_pos rfl]
  · rw [if_neg h, if_neg h]
    obtain ⟨n, hn, e⟩ := w12_and c
    rw [e, if_neg (nI_ne (by omega))]
theorem w12_mk0 (c : Int32) : W12 (mk0 c) := by
  unfold mk0
  by_cases h : c = -1
  · rw [if_pos h]; exact w12_0
  · rw [if_neg h]; exact w12_and c
theorem HJ_dF {R : Rf} {v w : Nat → Int32} (h : HJ U S R v w s qs T B P D) (u : Nat) {f : Nat → Int32} (hf : ∀ i, W12 (f i)) : HJ U S R v w (sG s 36 u f) qs T B P D := by
  obtain ⟨⟨a1, a2, a3, a4, a5, a6, a7, a8⟩, hT, hB, hX, hS, hQ, hR, hO⟩ := h
  refine ⟨⟨a1, a2, a3, a4, a5, a6, ?_, a8⟩, hT, hB, hX, hS, hQ, hR, hO⟩
  intro k i
  show W12 (up1 (s.2.2 36) u f k i)
  by_cases e : k = u
  · subst e; rw [up1_s]; exact hf i
  · rw [up1_n _ _ e]; exact a7 k i
/-- the new words lie on the drum, the registers are clear, the user is STOPPED -/
def mtC (t : CS) (j : Nat) (f : Nat → Int32) : CS := qI (qI (qI (qI (qI (qF t 10 j 1 f) 10 j 9 128) 10 j 10 0) 10 j 11 0) 10 j 12 0) 10 j 8 6
theorem Inv_mt (h : Inv U S t s qs T B P D) {u : Nat} (hst : s.2.1 42 u = 0 ∨ s.2.1 42 u = 6 ∨ s.2.1 42 u = 7) {f : Nat → Int32} (hf : ∀ i, W12 (f i)) : Inv U S (mtC t u f) (mtR (sG s 36 u f) u) qs T B P D := by
  obtain ⟨H, hQ, hJ⟩ := h
  have h1 : s.2.1 42 u ≠ 1 := by rcases hst with z | z | z <;> rw [z] <;> decide
  have h5 : s.2.1 42 u ≠ 5 := by rcases hst with z | z | z <;> rw [z] <;> decide
  have hn : u ∉ qs := fun z => h1 (hJ.2.2.2.2.2.1 u z)
  have hr : t.2.2.2.1 2 0 8 ≠ some u := fun z => h1 (hJ.2.2.2.2.2.2.1 u z).2.1
  have s1 := Sim_F H (q := (10, 1, 36)) (by decide) u f
  have j1 := HJ_dF hJ u hf
  have s2 := Sim_U (Sim_U (Sim_U (Sim_U (Sim_U s1 (q := (10, 43)) (by decide) u 0) (q := (12, 44)) (by decide) u 0) (q := (11, 46)) (by decide) u 0) (q := (9, 45)) (by decide) u 128) (q := (8, 42)) (by decide) u 6
  have j2 := HJ_st (HJ_pc (HJ_lk (HJ_mq (HJ_ac j1 u w12_0 h5) u w12_0 h5) u (Or.inl rfl)) u (x := 128) ⟨128, by decide, rfl⟩) u (x := 6) (fun _ => h5) (by decide) (fun z => absurd z hn) (fun z => absurd z hr)
  have ec : mtC t u f = qI (qI (qI (qI (qI (qF t 10 u 1 f) 10 u 10 0) 10 u 12 0) 10 u 11 0) 10 u 9 128) 10 u 8 6 := by
    unfold mtC qI
    refine Prod.ext ?_ rfl
    funext a b c
    dsimp only
    unfold up3
    repeat' split
    all_goals first | rfl | (exfalso; omega)
  rw [ec]
  refine ⟨s2, hQ, ?_⟩
  refine HI_q (by decide) (by decide) ?_
  refine HI_q (by decide) (by decide) ?_
  refine HI_q (by decide) (by decide) ?_
  refine HI_q (by decide) (by decide) ?_
  refine HI_q (by decide) (by decide) ?_
  exact j2
theorem al_mount (hU0 : 0 < U) (hU : U < 7) (hS5 : S < 5) (hN : 4096 < N) (h : Inv U S t s qs T B P D) (x1 : Int32) : ∃ x t2 s2, u_X11_mount U S N x1 t = some (x, t2) ∧ g_mount U S N x1 s = some (x, s2) ∧ Inv U S t2 s2 qs T B P D := by
  obtain ⟨H, hQ, hJ⟩ := id h
  have h31 := H.2.2.2.2.1.1.1
  unfold u_X11_mount u_X11_mount_24 g_mount g_mount_16 g_mount_38
  rcases in_cases U (by omega) x1 with ⟨j, hj, rfl⟩ | hx
  · obtain ⟨m1, m2⟩ := u_mayChange_y (N := N) hU H hj
    rw [g_rests_y hU h31 hj, usA_y hU hj]
    simp only [Option.bind_some, vl_y hj, reduceCtorEq, if_false]
    by_cases hm : mayc s j
    · rw [m1 hm, if_pos hm.1]
      simp only [Option.bind_some, o10, if_false, not_false_eq_true, if_true]
      rcases g_isMoved_y (N := N) H j with ⟨hh, _⟩ | ⟨_, hh⟩
      · exact absurd hh hm.2
      · rw [hh]
        obtain ⟨i, hi, hM1, hM2, hM3⟩ := H.2.2.2.2.2.2.2.2.2.1
        have h1 : s.2.1 42 j ≠ 1 := by rcases hm.1 with z | z | z <;> rw [z] <;> decide
        have h5 : s.2.1 42 j ≠ 5 := by rcases hm.1 with z | z | z <;> rw [z] <;> decide
        have hru : t.2.2.2.1 2 0 8 ≠ some j := fun z => h1 (hJ.2.2.2.2.2.2.1 j z).2.1
        have hc : t.2.2.2.1 1 0 1 ≠ some j := by
          intro z
          rcases H.2.2.2.2.2.2.1 with ⟨a1, a2, a3, a4⟩ | ⟨a0, u, k, hu, hk, a1, a2, a3, a4, a5⟩
          · rw [a2] at z; cases z
          · rw [a1] at z
            have e := Option.some.inj z
            rw [e] at a2
            exact hm.2 ⟨by rcases a0 with q | q | q | q <;> rw [q] <;> decide, a2⟩
        simp only [Option.bind_some, if_true]
        rw [hM1, rA_y (by omega) hj, (H.2.2.2.2.1.2.1 j hj).2.1]
        simp only [Option.bind_some, vl_y hi]
        have fin : ∀ (t1 : CS) (s1 : RS), Inv U S t1 s1 qs T B P D → t1.2.1 = t.2.1 → s1.2.1 25 = s.2.1 25 → (s1.2.1 42 j = 0 ∨ s1.2.1 42 j = 6 ∨ s1.2.1 42 j = 7) → ∃ x t2 s2, ((u_X2_load_14 U S N (some j) (some i) t1).bind fun q10 => cZ 1 q10.2) = some (x, t2) ∧ l_mount_40 U S N N (nI j) 0 s1 = some (x, s2) ∧ Inv U S t2 s2 qs T B P D := by
          intro t1 s1 h1 et es hst
          have hdr : t1.2.1 10 j 1 = s1.2.2 36 j := by
            funext p
            exact h1.1.2.2.2.1 (10, 1, 36) (by decide) j p
          have hG : ∀ p, p < 4096 → s1.2.1 25 p = mk (t.2.1 7 i 0 p) := fun p hp => by rw [es]; exact hM3 p hp
          rw [show (0 : Int32) = nI 0 from rfl, cp_r hU hj (fun p => mk (t.2.1 7 i 0 p)) N 0 s1 hG (by omega) (by omega)]
          unfold u_X2_load_14 u_X7_copyTo u_X10_clearRegisters
          simp only [Option.bind_some]
          rw [show (0 : Int32) = nI 0 from rfl, cp_c (t.2.1 7 i 0) N 0 t1 (fun p _ => by rw [et]) (by omega) (by omega)]
          have ef : (fun p => rmz (mk (t.2.1 7 i 0 p))) = fun p => mk0 (t.2.1 7 i 0 p) := by funext p; exact rmz_mk _
          have hf : ∀ p, W12 (cpF (s1.2.2 36 j) (fun p => mk0 (t.2.1 7 i 0 p)) 0 p) := by
            intro p
            unfold cpF
            by_cases e : 0 ≤ p ∧ p < 4096
            · rw [if_pos e]; exact w12_mk0 _
            · rw [if_neg e]; exact h1.2.2.1.2.2.2.2.2.2.1 j p
          refine ⟨1, _, _, rfl, rfl, ?_⟩
          rw [ef, hdr]
          exact Inv_mt h1 hst hf
        unfold u_X2_load
        simp only [Option.bind_some]
        cases ho : t.2.2.2.1 10 j 19 with
        | none =>
          simp only [vl_0, Option.bind_some, rf, if_true]
          exact fin t s h rfl rfl hm.1
        | some k =>
          have hk : k < S := (H.2.2.2.2.1.2.1 j hj).2.2 k ho
          have hok : t.2.2.2.1 8 k 2 = some j := (hJ.2.2.2.2.1.1 j k hj hk).mp ho
          simp only [vl_y hk, Option.bind_some, reduceCtorEq, if_false, rf]
          simp only [show ¬ nI k = -1 from nI_ne (by omega), if_false]
          rw [rl_c hj hok, rl_r hU hS5 hj hk (by rw [(H.2.2.2.2.1.2.2.1 k hk).2.1, hok]; rfl)]
          simp only [Option.bind_some]
          exact fin _ _ (Inv_rl h hj hk ho h5 hru (fun _ => hc)) rfl rfl hm.1
    · rw [m2 hm]
      refine ⟨0, t, s, rfl, ?_, h⟩
      by_cases hr : s.2.1 42 j = 0 ∨ s.2.1 42 j = 6 ∨ s.2.1 42 j = 7
      · rw [if_pos hr]
        simp only [o10, if_false]
        rcases g_isMoved_y (N := N) H j with ⟨_, hh⟩ | ⟨hh, _⟩
        · rw [hh]; rfl
        · exact absurd ⟨hr, hh⟩ hm
      · rw [if_neg hr]; rfl
  · rw [g_rests_n hU0 hU h31 hx, usA_n hU0 hU hx]
    exact ⟨0, t, s, rfl, rfl, h⟩
end
