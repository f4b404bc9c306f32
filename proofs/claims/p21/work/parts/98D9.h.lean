/-! LAYER 3, the house: who runs; a turn -/
section
variable {U S N : Nat} {t : CS} {s : RS} {qs : List Nat} {T B D : Nat} {P : Nat → Nat}
theorem takes_y (hU : U < 7) (H : Sim U S t s) {w : Nat} : u_X1_isTakingOut U S N (some w) t = some (if s.1 67 = 1 ∧ t.2.2.2.1 1 0 1 = some w then 1 else 0, t) := by
  unfold u_X1_isTakingOut u_X1_isTakingOut_20 u_X1_isTakingOut_21
  rw [show t.1 1 0 0 = s.1 67 from H.2.2.1 (1, 0, 67) (by decide)]
  have hvl : vl U (t.2.2.2.1 1 0 1) = some (t.2.2.2.1 1 0 1) := by
    rcases H.2.2.2.2.2.2.1 with ⟨_, z, _⟩ | ⟨_, u, k, hu, hk, z, _⟩
    · rw [z]; rfl
    · rw [z]; exact vl_y hu
  by_cases c : s.1 67 = 1
  · rw [if_neg (not_not_intro c), hvl]
    simp only [Option.bind_some]
    by_cases d : t.2.2.2.1 1 0 1 = some w
    · rw [if_neg (not_not_intro d), if_pos ⟨c, d⟩]; rfl
    · rw [if_pos d, if_neg (fun z => d z.2)]; rfl
  · rw [if_pos c, if_neg (fun z => c z.1)]; rfl
def pr (R : Rf) (s : RS) (qs : List Nat) (i : Nat) : Bool := decide (R 10 (qs.getD i 0) 19 ≠ none ∧ ¬ (s.1 67 = 1 ∧ R 1 0 1 = some (qs.getD i 0)))
theorem pr_y {R : Rf} {i : Nat} (h1 : R 10 (qs.getD i 0) 19 ≠ none) (h2 : ¬ (s.1 67 = 1 ∧ R 1 0 1 = some (qs.getD i 0))) : pr R s qs i = true := decide_eq_true ⟨h1, h2⟩
theorem pr_n {R : Rf} {i : Nat} (h : R 10 (qs.getD i 0) 19 = none ∨ (s.1 67 = 1 ∧ R 1 0 1 = some (qs.getD i 0))) : ¬ pr R s qs i = true := by
  intro z
  obtain ⟨a, b⟩ := of_decide_eq_true z
  rcases h with h | h
  · exact a h
  · exact b h
theorem cr_c (hU : U < 7) (H : Sim U S t s) (hQ : isQ U t s qs) : ∀ (m i : Nat), i ≤ qs.length → qs.length < i + m → ul_X2_chooseRunning_2 U S N m (nI i) t = (match ff (pr t.2.2.2.1 s qs) (qs.length - i) i with
    | none => some ((), t)
    | some j => (u_X5_remove U S N (some (qs.getD j 0)) t).bind fun q11 => some ((), qI (qR q11.2 2 0 8 (some (qs.getD j 0))) 2 0 9 (q11.2.1 2 0 5))) := by
  have hn := nd_len U qs hQ.1 hQ.2.1
  have ht : t.1 5 0 1 = nI qs.length := by rw [H.2.2.1 (5, 1, 63) (by decide)]; exact hQ.2.2.1
  intro m
  induction m with
  | zero => intro i h1 h2; omega
  | succ m ih =>
    intro i h1 h2
    show uh_X2_chooseRunning_2 U S N (ul_X2_chooseRunning_2 U S N m) (nI i) t = _
    unfold uh_X2_chooseRunning_2 u_X2_chooseRunning_66
    rw [ht]
    by_cases hi : qs.length ≤ i
    · rw [if_pos ((leI (by omega) (by omega)).mpr hi), ff_0 _ hi]
    · have hlt : i < qs.length := by omega
      have hq := hQ.2.2.2 i _ (getD_q hlt)
      have hjU : qs.getD i 0 < U := hQ.2.1 _ (List.mem_of_getElem? (getD_q hlt))
      have hat : u_X5_at U S N (nI i) t = some (some (qs.getD i 0), t) := by
        unfold u_X5_at u_X5_at_22
        rw [if_neg (nI_nn (by omega)), ht, if_pos ((ltI (by omega) (by omega)).mpr hlt), rU_y (by omega) (by omega), hq.1]
        simp only [Option.bind_some, vl_y hjU]
      rw [if_neg (fun z => hi ((leI (by omega) (by omega)).mp z)), hat]
      simp only [Option.bind_some, vl_y hjU, reduceCtorEq, if_false]
      rw [ff_1 _ hlt, nI_1]
      cases e : t.2.2.2.1 10 (qs.getD i 0) 19 with
      | none =>
        rw [if_neg (pr_n (Or.inl e))]
        simp only [vl_0, Option.bind_some, if_true]
        exact ih (i + 1) (by omega) (by omega)
      | some k =>
        have hk : k < S := (H.2.2.2.2.1.2.1 _ hjU).2.2 k e
        simp only [vl_y hk, Option.bind_some, reduceCtorEq, if_false]
        rw [takes_y hU H]
        simp only [Option.bind_some]
        by_cases c : s.1 67 = 1 ∧ t.2.2.2.1 1 0 1 = some (qs.getD i 0)
        · rw [if_pos c, if_pos (by decide), if_neg (pr_n (Or.inr c))]
          exact ih (i + 1) (by omega) (by omega)
        · rw [if_neg c, if_neg (by decide), if_pos (pr_y (by rw [e]; simp) c)]
          rfl
theorem cr_r (hU : U < 7) (hS5 : S < 5) (H : Sim U S t s) (hQ : isQ U t s qs) (h64 : s.1 64 = -1) : ∀ (m i : Nat), i ≤ qs.length → qs.length + 1 < i + m → l_processes_10 U S N m (nI i) s = (match ff (pr t.2.2.2.1 s qs) (qs.length - i) i with
    | none => g_processes_70 U S N s
    | some j => g_processes_70 U S N (pI s 64 (nI (qs.getD j 0)))) := by
  have hn := nd_len U qs hQ.1 hQ.2.1
  intro m
  induction m with
  | zero => intro i h1 h2; omega
  | succ m ih =>
    intro i h1 h2
    show h_processes_10 U S N (l_processes_10 U S N m) (nI i) s = _
    unfold h_processes_10 g_processes_59
    unfold g_processes_64
    rw [hQ.2.2.1]
    by_cases hi : qs.length ≤ i
    · rw [if_pos ((leI (by omega) (by omega)).mpr hi), ff_0 _ hi]
    · have hlt : i < qs.length := by omega
      have hq := hQ.2.2.2 i _ (getD_q hlt)
      have hjU : qs.getD i 0 < U := hQ.2.1 _ (List.mem_of_getElem? (getD_q hlt))
      rw [if_neg (fun z => hi ((leI (by omega) (by omega)).mp z)), h64, if_neg (not_not_intro rfl), rA_y (by decide) (by omega), hq.2]
      simp only [Option.bind_some]
      rw [rA_y (by omega) hjU, (H.2.2.2.2.1.2.1 _ hjU).2.1, ff_1 _ hlt, nI_1]
      simp only [Option.bind_some]
      have stop : l_processes_10 U S N m (nI (i + 1)) (pI s 64 (nI (qs.getD i 0))) = g_processes_70 U S N (pI s 64 (nI (qs.getD i 0))) := by
        obtain ⟨m, rfl⟩ : ∃ m', m = m' + 1 := ⟨m - 1, by omega⟩
        show h_processes_10 U S N (l_processes_10 U S N m) (nI (i + 1)) _ = _
        unfold h_processes_10
        by_cases c : (pI s 64 (nI (qs.getD i 0))).1 63 ≤ nI (i + 1)
        · rw [if_pos c]
        · rw [if_neg c, if_pos (show ¬ (pI s 64 (nI (qs.getD i 0))).1 64 = -1 from nI_ne (by omega))]
      cases e : t.2.2.2.1 10 (qs.getD i 0) 19 with
      | none =>
        rw [if_neg (pr_n (Or.inl e))]
        simp only [show rf (none : Option Nat) = -1 from rfl, if_true]
        exact ih (i + 1) (by omega) (by omega)
      | some k =>
        have hk : k < S := (H.2.2.2.2.1.2.1 _ hjU).2.2 k e
        simp only [show ¬ rf (some k) = -1 from nI_ne (by omega), if_false]
        by_cases c1 : s.1 67 = 1
        · rw [if_neg (not_not_intro c1)]
          rcases H.2.2.2.2.2.2.1 with ⟨z, _⟩ | ⟨_, u2, k2, hu2, hk2, z1, z2, _⟩
          · rw [c1] at z; exact absurd z (by decide)
          · rw [z2]
            by_cases c2 : u2 = qs.getD i 0
            · rw [if_pos (by rw [c2]), if_neg (pr_n (Or.inr ⟨c1, by rw [z1, c2]⟩))]
              exact ih (i + 1) (by omega) (by omega)
            · rw [if_neg (fun z => c2 ((eqI (by omega) (by omega)).mp z)), if_pos (pr_y (by rw [e]; simp) (fun z => c2 (Option.some.inj (z1.symm.trans z.2))))]
              exact stop
        · rw [if_pos c1, if_pos (pr_y (by rw [e]; simp) (fun z => c1 z.1))]
          exact stop
theorem HJ_B1 {R : Rf} {v w : Nat → Int32} (h : HJ U S R v w s qs T B P D) : HJ U S R v w s qs T (B + 1) P D := by
  obtain ⟨hW, hT, hB, ⟨W, fa, fb, x1, x2, x3, x4⟩, hS, hQ, hR, hO⟩ := h
  exact ⟨hW, hT, hB, ⟨W, fa, fb, by omega, x2, fun j hj e => ⟨(x3 j hj e).1, (x3 j hj e).2.1, (x3 j hj e).2.2.1, by have := (x3 j hj e).2.2.2; omega⟩, x4⟩, hS, hQ, hR, hO⟩
/-- what a step gives -/
def StOK (U S N : Nat) : Prop := ∀ (t : CS) (s : RS) (qs : List Nat) (T B : Nat) (P : Nat → Nat) (u k : Nat), T < B + 1 → B < 2 ^ 30 → T < 2 ^ 30 → Inv U S t s qs T B P 0 → B = T → t.2.2.2.1 2 0 8 = some u → t.2.2.2.1 10 u 19 = some k → u < U → k < S → ∃ x t1 s1, u_X3_step U S N (some u) (some k) (t.1 2 0 7) t = some (x, t1) ∧ ((x = 0 ∧ g_step U S N (nI u) s = some ((), s1)) ∨ (x = 1 ∧ g_step U S N (nI u) s = some ((), pI (pA s1 48 u (s1.2.1 48 u + 1)) 75 (s1.1 75 + 1)))) ∧ Sim U S t1 s1 ∧ isQ U t1 s1 qs ∧ HJ U S (up3 t1.2.2.2.1 2 0 8 none) (f17 t1) (f18 t1) s1 qs T (B + 1) P 0 ∧ t1.2.2.2.1 = t.2.2.2.1
theorem Sim_lf (H : Sim U S t s) (h : t.2.2.2.1 2 0 8 ≠ none) (x : Int32) : Sim U S (qI t 2 0 9 x) (pI s 65 x) := by
  obtain ⟨hA, hSs, hB, hC, hR, hL, hK, hQ, hG, hM, hT⟩ := H
  refine ⟨hA, hSs, ?_, hC, hR, fun _ => rfl, hK, hQ, hG, hM, hT⟩
  intro p hp
  simp only [mB, List.mem_cons, List.not_mem_nil, or_false] at hp
  rcases hp with rfl | rfl | rfl | rfl | rfl | rfl | rfl | rfl | rfl | rfl | rfl | rfl <;> exact hB _ (by decide)
theorem run_1 (hU : U < 7) (hS5 : S < 5) (hst : StOK U S N) (hb : B < 2 ^ 30) (h : Inv U S t s qs T B P 0) (hBT : B = T) {u k : Nat} (hu : u < U) (hk : k < S) (hr : t.2.2.2.1 2 0 8 = some u) (hs : t.2.2.2.1 10 u 19 = some k) : ∃ t2 s2 qs2, u_X2_process_11 U S N t = some ((), t2) ∧ g_processes_105 U S N s = some ((), s2) ∧ Inv U S t2 s2 qs2 T (B + 1) P 0 := by
  obtain ⟨H, hQ, hJ⟩ := id h
  obtain ⟨hnq, hu1, _⟩ := hJ.2.2.2.2.2.2.1 u hr
  have h64 : s.1 64 = nI u := by rw [H.2.2.2.2.1.2.2.2.1, hr]; rfl
  have hno : ¬ (s.1 67 = 1 ∧ t.2.2.2.1 1 0 1 = some u) := by
    rintro ⟨c1, c2⟩
    rcases H.2.2.2.2.2.2.1 with ⟨z, _⟩ | ⟨_, u2, k2, hu2, hk2, z1, z2, z3, _⟩
    · rw [c1] at z; exact absurd z (by decide)
    · rw [z1] at c2
      have e := Option.some.inj c2
      subst e
      rcases hJ.2.2.2.2.2.2.2 (by decide) u2 k2 z1 z3 with ⟨_, _, d3, _⟩ | ⟨d1, _⟩ | ⟨d1, _⟩
      · exact d3 hr
      · rw [c1] at d1; exact absurd d1 (by decide)
      · rw [c1] at d1; rcases d1 with q | q <;> exact absurd q (by decide)
  obtain ⟨x, t1, s1, a1, a2, S1, Q1, J1, R1⟩ := hst t s qs T B P u k (by omega) hb (by omega) h hBT hr hs hu hk
  have hr1 : t1.2.2.2.1 2 0 8 = some u := by rw [R1]; exact hr
  have hs1 : t1.2.2.2.1 10 u 19 = some k := by rw [R1]; exact hs
  unfold u_X2_process_11 g_processes_105
  rw [hr, h64]
  simp only [vl_y hu, Option.bind_some, reduceCtorEq, if_false]
  rw [hs]
  simp only [vl_y hk, Option.bind_some, reduceCtorEq, not_false_eq_true, if_true]
  rw [a1]
  simp only [Option.bind_some]
  have fin : ∀ (t3 : CS) (s3 : RS), Sim U S t3 s3 → isQ U t3 s3 qs → HJ U S (up3 t3.2.2.2.1 2 0 8 none) (f17 t3) (f18 t3) s3 qs T (B + 1) P 0 → t3.2.2.2.1 = t.2.2.2.1 → s3.1 67 = s1.1 67 → ∃ t2 s2 qs2, u_X2_process_77 U S N (some u) t3 = some ((), t2) ∧ ((some (pI s3 65 ((s3.1 65) - 1))).bind fun μ5 => (rA U μ5 42 (nI u)).bind fun v7 => if v7 = (1 : Int32) then if (μ5.1 65) ≤ 0 then (rA U μ5 41 (nI u)).bind fun v11 => (wZ S μ5 40 v11 1).bind fun μ12 => if ¬ (μ12.1 63) = 0 then (some (pI μ12 64 ((-1)))).bind fun μ14 => (g_becomesReady U S N (nI u) μ14).bind fun q15 => some ((), q15.2) else (some (pI μ12 65 (μ12.1 33))).bind fun μ18 => some ((), μ18) else some ((), μ5) else (rA U μ5 41 (nI u)).bind fun v21 => (wZ S μ5 40 v21 1).bind fun μ22 => (some (pI μ22 64 ((-1)))).bind fun μ23 => some ((), μ23)) = some ((), s2) ∧ Inv U S t2 s2 qs2 T (B + 1) P 0 := by
    intro t3 s3 S3 Q3 J3 R3 e67
    have hr3 : t3.2.2.2.1 2 0 8 = some u := by rw [R3]; exact hr
    have hs3 : t3.2.2.2.1 10 u 19 = some k := by rw [R3]; exact hs
    have hL : t3.1 2 0 9 = s3.1 65 := S3.2.2.2.2.2.1 (by rw [hr3]; simp)
    have S4 := Sim_lf S3 (by rw [hr3]; simp) (s3.1 65 - 1)
    have h41 : s3.2.1 41 u = nI k := by rw [(S3.2.2.2.2.1.2.1 u hu).2.1, hs3]; rfl
    have own : up3 t3.2.2.2.1 2 0 8 none 8 k 2 ≠ none := HJ_own J3 hu hk hs3
    have hRR : up3 (up3 t3.2.2.2.1 2 0 8 none) 2 0 8 (some u) = t3.2.2.2.1 := by rw [up3_up3, ← hr3, up3_id]
    unfold u_X2_process_77 u_X2_process_115
    simp only [Option.bind_some]
    rw [hL, rA_y (by omega) hu]
    simp only [Option.bind_some]
    rw [show (qI t3 2 0 9 (s3.1 65 - 1)).1 10 u 8 = s3.2.1 42 u from S3.1 (8, 42) (by decide) u, show (pI s3 65 (s3.1 65 - 1)).2.1 42 u = s3.2.1 42 u from rfl, show (qI t3 2 0 9 (s3.1 65 - 1)).1 2 0 9 = s3.1 65 - 1 from rfl, show (pI s3 65 (s3.1 65 - 1)).1 65 = s3.1 65 - 1 from rfl]
    have et : u_X2_endTurn U S N (some u) (qI t3 2 0 9 (s3.1 65 - 1)) = some ((), qI (qI (qR (qI t3 2 0 9 (s3.1 65 - 1)) 2 0 8 none) 2 0 9 0) 8 k 4 1) := by
      unfold u_X2_endTurn u_X2_endTurn_25 qZ
      simp only [Option.bind_some]
      rw [show (qI (qR (qI t3 2 0 9 (s3.1 65 - 1)) 2 0 8 none) 2 0 9 0).2.2.2.1 10 u 19 = some k from hs3]
      simp only [vl_y hk, Option.bind_some, reduceCtorEq, if_false]
      rfl
    have S5 : Sim U S (qI (qI (qR (qI t3 2 0 9 (s3.1 65 - 1)) 2 0 8 none) 2 0 9 0) 8 k 4 1) (pI (pA (pI s3 65 (s3.1 65 - 1)) 40 k 1) 64 (-1)) := Sim_S (Sim_r0 S4) (q := (4, 40)) (by decide) k 1
    have J5 : HJ U S (up3 t3.2.2.2.1 2 0 8 none) (f17 t3) (f18 t3) (pI (pA (pI s3 65 (s3.1 65 - 1)) 40 k 1) 64 (-1)) qs T (B + 1) P 0 := HJ_f40 J3 1 own
    rw [rA_y (by omega) hu, show (pI s3 65 (s3.1 65 - 1)).2.1 41 u = nI k from h41]
    simp only [Option.bind_some]
    rw [wZ_y (by omega) hk _ _ (Or.inr rfl)]
    simp only [Option.bind_some]
    by_cases c1 : s3.2.1 42 u = 1
    · rw [if_pos c1, if_pos c1]
      by_cases c2 : s3.1 65 - 1 ≤ 0
      · have c2' : ¬ (0 : Int32) < s3.1 65 - 1 := by
          rw [Int32.lt_iff_toInt_lt]
          rw [Int32.le_iff_toInt_le] at c2
          omega
        rw [if_neg c2', if_pos c2]
        unfold u_X2_endQuantum u_X2_endQuantum_39
        rw [et]
        simp only [Option.bind_some]
        have hq5 : (qI (qI (qR (qI t3 2 0 9 (s3.1 65 - 1)) 2 0 8 none) 2 0 9 0) 8 k 4 1).1 5 0 1 = nI qs.length := by
          rw [S5.2.2.1 (5, 1, 63) (by decide)]
          exact Q3.2.2.1
        rw [hq5, show (pA (pI s3 65 (s3.1 65 - 1)) 40 k 1).1 63 = nI qs.length from Q3.2.2.1]
        have hn := nd_len U qs Q3.1 Q3.2.1
        by_cases c3 : qs.length = 0
        · rw [if_pos (by rw [c3]; decide), if_neg (by rw [c3]; exact not_not_intro rfl)]
          have e5 : (qR (qI (qI (qR (qI t3 2 0 9 (s3.1 65 - 1)) 2 0 8 none) 2 0 9 0) 8 k 4 1) 2 0 8 (some u)).1 2 0 5 = s3.1 33 := S3.2.2.1 (2, 5, 33) (by decide)
          rw [e5]
          have S6 := Sim_r1 S5 hu (s3.1 33)
          have er : pI (pI (pI (pA (pI s3 65 (s3.1 65 - 1)) 40 k 1) 64 (-1)) 64 (nI u)) 65 (s3.1 33) = pI (pA (pI s3 65 (s3.1 65 - 1)) 40 k 1) 65 (s3.1 33) := by
            have e64 : s3.1 64 = nI u := by
              rw [S3.2.2.2.2.1.2.2.2.1, hr3]
              rfl
            rw [pI_pI, pI_id (pA (pI s3 65 (s3.1 65 - 1)) 40 k 1) (k := 64) (x := nI u) e64]
          rw [er] at S6
          refine ⟨_, _, qs, rfl, rfl, S6, Q3, ?_⟩
          have J6 := HJ_r1 J5 (u := u) hnq c1 (by show t3.2.2.2.1 10 u 19 ≠ none; rw [hs3]; simp) (by
            rintro ⟨z1, z2⟩
            have z1' : s3.1 67 = 1 := z1
            have z2' : t3.2.2.2.1 1 0 1 = some u := z2
            rw [R3] at z2'
            refine hno ⟨?_, z2'⟩
            have ht3 : t3.1 1 0 0 = s3.1 67 := S3.2.2.1 (1, 0, 67) (by decide)
            rcases H.2.2.2.2.2.2.1 with ⟨_, z, _⟩ | ⟨_, u2, k2, hu2, hk2, y1, y2, y3, _⟩
            · rw [z] at z2'; cases z2'
            · have f1 : u2 = u := by rw [y1] at z2'; exact Option.some.inj z2'
              rcases J3.2.2.2.2.2.2.2 (by decide) u2 k2 (by show t3.2.2.2.1 1 0 1 = _; rw [R3]; exact y1) (by show t3.2.2.2.1 1 0 2 = _; rw [R3]; exact y3) with ⟨g1, g2, _⟩ | ⟨g1, _⟩ | ⟨g1, _⟩
              · rcases hJ.2.2.2.2.2.2.2 (by decide) u2 k2 y1 y3 with ⟨q1, _⟩ | ⟨_, q2, _⟩ | ⟨_, q2, _⟩
                · exact q1
                · rw [f1, hs] at q2; cases q2
                · rw [f1, hu1] at q2; exact absurd q2 (by decide)
              · rw [z1'] at g1; exact absurd g1 (by decide)
              · rw [z1'] at g1; rcases g1 with q | q <;> exact absurd q (by decide))
          exact J6
        · rw [if_neg (fun z => c3 (by have := (leI (a := qs.length) (b := 0) (by omega) (by decide)).mp z; omega)), if_pos (show ¬ nI qs.length = 0 from fun z => c3 ((eqI (a := qs.length) (b := 0) (by omega) (by decide)).mp z))]
          have c8 : (qI (qI (qR (qI t3 2 0 9 (s3.1 65 - 1)) 2 0 8 none) 2 0 9 0) 8 k 4 1).1 10 u 8 = 1 := (S3.1 (8, 42) (by decide) u).trans c1
          have k1 := rd_c (N := N) hU S5 Q3 hu hnq
          unfold u_X2_makeReady at k1
          simp only [Option.bind_some] at k1
          rw [qI_id _ c8] at k1
          have k2 := rd_r (S := S) (N := N) (t := t3) (s := pI (pA (pI s3 65 (s3.1 65 - 1)) 40 k 1) 64 (-1)) hU Q3 hu hnq
          rw [k2]
          have k3 := Sim_rd hU S5 Q3 hu hnq
          have e6 : u_X5_append U S N (some u) (qI (qI (qR (qI t3 2 0 9 (s3.1 65 - 1)) 2 0 8 none) 2 0 9 0) 8 k 4 1) = some ((), rdC (qI (qI (qR (qI t3 2 0 9 (s3.1 65 - 1)) 2 0 8 none) 2 0 9 0) 8 k 4 1) u qs.length) := by
            cases e : u_X5_append U S N (some u) (qI (qI (qR (qI t3 2 0 9 (s3.1 65 - 1)) 2 0 8 none) 2 0 9 0) 8 k 4 1) with
            | none => rw [e] at k1; cases k1
            | some q => rw [e] at k1; exact k1
          rw [e6]
          refine ⟨_, _, qs ++ [u], rfl, rfl, k3.1, k3.2, ?_⟩
          show HJ U S (up3 t3.2.2.2.1 2 0 8 none) (f17 (qI t3 10 u 8 1)) (f18 (qI t3 10 u 8 1)) _ _ _ _ _ _
          rw [f17_n _ _ _ (by decide), f18_n _ _ _ (by decide)]
          refine HJ_q (HJ_st J5 u (x := 1) (fun _ => by show s3.2.1 42 u ≠ 5; rw [c1]; decide) (by decide) (fun _ => rfl) (fun _ => rfl)) (upd_y _ _ _) (fun z => by cases z) ?_ ?_ rfl
          · intro j hj
            exact up1_n _ _ hj
          · intro j hj
            exact up1_n _ _ hj
      · have c2' : (0 : Int32) < s3.1 65 - 1 := by
          rw [Int32.lt_iff_toInt_lt]
          rw [Int32.le_iff_toInt_le] at c2
          omega
        rw [if_pos c2', if_neg c2]
        refine ⟨_, _, qs, rfl, rfl, S4, Q3, ?_⟩
        have J6 := HJ_r1 J3 (u := u) hnq c1 (by show t3.2.2.2.1 10 u 19 ≠ none; rw [hs3]; simp) (by
            rintro ⟨z1, z2⟩
            have z1' : s3.1 67 = 1 := z1
            have z2' : t3.2.2.2.1 1 0 1 = some u := z2
            rw [R3] at z2'
            refine hno ⟨?_, z2'⟩
            rcases H.2.2.2.2.2.2.1 with ⟨_, z, _⟩ | ⟨_, u2, k2, hu2, hk2, y1, y2, y3, _⟩
            · rw [z] at z2'; cases z2'
            · have f1 : u2 = u := by rw [y1] at z2'; exact Option.some.inj z2'
              rcases hJ.2.2.2.2.2.2.2 (by decide) u2 k2 y1 y3 with ⟨q1, _⟩ | ⟨_, q2, _⟩ | ⟨_, q2, _⟩
              · exact q1
              · rw [f1, hs] at q2; cases q2
              · rw [f1, hu1] at q2; exact absurd q2 (by decide))
        rw [hRR] at J6
        exact J6
    · rw [if_neg c1, if_neg c1, et]
      simp only [Option.bind_some]
      exact ⟨_, _, qs, rfl, rfl, S5, Q3, J5⟩
  rcases a2 with ⟨rfl, a2⟩ | ⟨rfl, a2⟩
  · rw [a2]
    simp only [Option.bind_some, if_true]
    exact fin t1 s1 S1 Q1 J1 R1 rfl
  · rw [a2]
    simp only [Option.bind_some, o10, if_false]
    rw [show (qI t1 10 u 14 (t1.1 10 u 14 + 1)).1 2 0 11 = t1.1 2 0 11 from rfl, show t1.1 10 u 14 = s1.2.1 48 u from S1.1 (14, 48) (by decide) u, show t1.1 2 0 11 = s1.1 75 from S1.2.2.1 (2, 11, 75) (by decide)]
    refine fin (qI (qI t1 10 u 14 (s1.2.1 48 u + 1)) 2 0 11 (s1.1 75 + 1)) (pI (pA s1 48 u (s1.2.1 48 u + 1)) 75 (s1.1 75 + 1)) (Sim_B (Sim_U S1 (q := (14, 48)) (by decide) u _) (q := (2, 11, 75)) (by decide) _) Q1 ?_ R1 rfl
    show HJ U S (up3 t1.2.2.2.1 2 0 8 none) (f17 (qI t1 10 u 14 (s1.2.1 48 u + 1))) (f18 (qI t1 10 u 14 (s1.2.1 48 u + 1))) _ _ _ _ _ _
    rw [f17_n _ _ _ (by decide), f18_n _ _ _ (by decide)]
    exact J1
theorem qsR_pI (s : RS) (A : Nat → Int32) (n : Nat) {k : Nat} (h : k ≠ 63) (x : Int32) : qsR (pI s k x) A n = pI (qsR s A n) k x := by
  unfold pI qsR
  dsimp only
  rw [up1_comm _ h]
/-- the processor's part of a tick -/
theorem al_pc (hU : U < 7) (hS5 : S < 5) (hN : 100 < N) (hst : StOK U S N) (hb : B < 2 ^ 30) (h : Inv U S t s qs T B P 0) (hBT : B = T) : ∃ t2 s2 qs2, u_X2_tick_109 U S N t = some ((), t2) ∧ g_tick_53 U S N s = some ((), s2) ∧ Inv U S t2 s2 qs2 T (B + 1) P 0 := by
  obtain ⟨H, hQ, hJ⟩ := id h
  have hn := nd_len U qs hQ.1 hQ.2.1
  unfold u_X2_tick_109 g_tick_53 u_X2_process g_processes
  rw [H.2.2.2.2.1.2.2.2.1]
  cases er : t.2.2.2.1 2 0 8 with
  | some u =>
    have hu : u < U := H.2.2.2.2.1.2.2.2.2 u er
    obtain ⟨k, hs⟩ : ∃ k, t.2.2.2.1 10 u 19 = some k := by
      cases e : t.2.2.2.1 10 u 19 with
      | none => exact absurd e (hJ.2.2.2.2.2.2.1 u er).2.2
      | some k => exact ⟨k, rfl⟩
    have hk : k < S := (H.2.2.2.2.1.2.1 u hu).2.2 k hs
    obtain ⟨t2, s2, qs2, a1, a2, a3⟩ := run_1 (N := N) hU hS5 hst hb h hBT hu hk er hs
    simp only [vl_y hu, Option.bind_some, reduceCtorEq, not_false_eq_true, if_true]
    simp only [show ¬ rf (some u) = -1 from nI_ne (by omega), not_false_eq_true, if_true]
    rw [a1, a2]
    exact ⟨t2, s2, qs2, rfl, rfl, a3⟩
  | none =>
    have h64 : s.1 64 = -1 := by rw [H.2.2.2.2.1.2.2.2.1, er]; rfl
    simp only [vl_0, Option.bind_some, not_true_eq_false, if_false]
    simp only [show rf (none : Option Nat) = -1 from rfl, not_true_eq_false, if_false]
    unfold u_X2_chooseRunning
    rw [show ul_X2_chooseRunning_2 U S N N 0 t = _ from cr_c hU H hQ N 0 (by omega) (by omega), show l_processes_10 U S N N 0 s = _ from cr_r hU hS5 H hQ h64 N 0 (by omega) (by omega), Nat.sub_zero]
    cases ef : ff (pr t.2.2.2.1 s qs) qs.length 0 with
    | none =>
      unfold u_X2_process_11 u_X2_process_27 g_processes_70
      simp only [Option.bind_some]
      rw [er, h64]
      simp only [vl_0, Option.bind_some, if_true, not_true_eq_false, if_false]
      rw [show t.1 2 0 10 = s.1 74 from H.2.2.1 (2, 10, 74) (by decide)]
      exact ⟨_, _, qs, rfl, rfl, Sim_B H (q := (2, 10, 74)) (by decide) _, hQ, HJ_B1 hJ⟩
    | some i =>
      obtain ⟨_, hi, hp⟩ := ff_some ef
      have hlt : i < qs.length := by omega
      generalize hw : qs.getD i 0 = w at *
      have hwq : w ∈ qs := by rw [← hw]; exact List.mem_of_getElem? (getD_q hlt)
      have hwU : w < U := hQ.2.1 w hwq
      have hp' := of_decide_eq_true hp
      rw [hw] at hp'
      obtain ⟨k, hs⟩ : ∃ k, t.2.2.2.1 10 w 19 = some k := by
        cases e : t.2.2.2.1 10 w 19 with
        | none => exact absurd e hp'.1
        | some k => exact ⟨k, rfl⟩
      have hk : k < S := (H.2.2.2.2.1.2.1 w hwU).2.2 k hs
      have ht5 : t.1 5 0 1 = nI qs.length := by rw [H.2.2.1 (5, 1, 63) (by decide)]; exact hQ.2.2.1
      have hQ64 : isQ U t (pI s 64 (nI w)) qs := hQ
      obtain ⟨A, r1, r2⟩ := leave_r (S := S) (N := N) hU hN hQ64 hwU
      obtain ⟨Q, c1, c2⟩ := leave_c (S := S) (N := N) (t := t) (u := w) hU hN ht5 hQ.1 hQ.2.1 (fun i j hi => (hQ.2.2.2 i j hi).1)
      have S1 := Sim_w H hQ c2 r2
      have Q1 : isQ U (qsC t Q (qw qs w).length) (qsR s A (qw qs w).length) (qw qs w) := isQ_w hQ c2 r2
      have J1 := HJ_w hJ w A (qw qs w).length
      have hnw : w ∉ qw qs w := fun z => (qw_mem.mp z).2 rfl
      have S2 := Sim_r1 S1 hwU (s.1 33)
      have J2 := HJ_r1 J1 (u := w) hnw (hJ.2.2.2.2.2.1 w hwq) hp'.1 hp'.2
      have hI : Inv U S (qI (qR (qsC t Q (qw qs w).length) 2 0 8 (some w)) 2 0 9 (s.1 33)) (pI (pI (qsR s A (qw qs w).length) 64 (nI w)) 65 (s.1 33)) (qw qs w) T B P 0 := ⟨S2, Q1, J2⟩
      show ∃ t2 s2 qs2, ((((u_X5_remove U S N (some (qs.getD i 0)) t).bind fun q11 => some ((), qI (qR q11.2 2 0 8 (some (qs.getD i 0))) 2 0 9 (q11.2.1 2 0 5))).bind fun q2 => u_X2_process_11 U S N q2.2).bind fun q1 => some ((), q1.2)) = some ((), t2) ∧ ((g_processes_70 U S N (pI s 64 (nI (qs.getD i 0)))).bind fun q1 => some ((), q1.2)) = some ((), s2) ∧ Inv U S t2 s2 qs2 T (B + 1) P 0
      rw [hw, c1]
      simp only [Option.bind_some]
      unfold g_processes_70
      rw [show (pI s 64 (nI w)).1 64 = nI w from rfl, if_pos (nI_ne (by omega)), r1]
      simp only [Option.bind_some]
      rw [qsR_pI s A _ (show (64 : Nat) ≠ 63 by decide), show (pI (qsR s A (qw qs w).length) 64 (nI w)).1 33 = s.1 33 from rfl, show (qsC t Q (qw qs w).length).1 2 0 5 = s.1 33 from H.2.2.1 (2, 5, 33) (by decide)]
      obtain ⟨t2, s2, qs2, a1, a2, a3⟩ := run_1 (N := N) hU hS5 hst hb hI hBT hwU hk rfl hs
      rw [a1, a2]
      exact ⟨t2, s2, qs2, rfl, rfl, a3⟩
end
