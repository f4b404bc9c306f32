/-! LAYER 3, the house: the queue's task; looking for a task -/
theorem qI_id (t : CS) {a b c : Nat} {x : Int32} (h : t.1 a b c = x) : qI t a b c x = t := by
  unfold qI
  rw [← h, up3_id]
theorem qR_id (t : CS) {a b c : Nat} {o : Option Nat} (h : t.2.2.2.1 a b c = o) : qR t a b c o = t := by
  unfold qR
  rw [← h, up3_id]
section
variable {U S N : Nat} {t : CS} {s : RS} {qs : List Nat} {T B D : Nat} {P : Nat → Nat}
theorem rl0_c {k : Nat} (h : t.2.2.2.1 8 k 2 = none) (h3 : t.1 8 k 3 = 0) (h4 : t.1 8 k 4 = 0) : u_X8_release U S N k t = some ((), t) := by
  unfold u_X8_release u_X8_release_15 qZ
  rw [h]
  simp only [vl_0, Option.bind_some, if_true, true_or]
  rw [qR_id t h, qI_id t h3, qI_id t h4]
theorem al_qt (hU : U < 7) (hS5 : S < 5) (hN : 100 < N) (h : Inv U S t s qs T B P 0) (h67 : s.1 67 = 0) : ∃ x t2 s2, u_X2_serveQueue U S N t = some (x, t2) ∧ g_queuesTask U S N s = some (x, s2) ∧ ((x = 0 ∧ t2 = t ∧ s2 = s) ∨ (x = 1 ∧ Inv U S t2 s2 qs T B P 0)) := by
  obtain ⟨H, hQ, hJ⟩ := id h
  have hc0 : t.2.2.2.1 1 0 1 = none := by
    rcases H.2.2.2.2.2.2.1 with ⟨_, z, _⟩ | ⟨z, _⟩
    · exact z
    · rw [h67] at z
      rcases z with z | z | z | z <;> exact absurd z (by decide)
  have hn := nd_len U qs hQ.1 hQ.2.1
  unfold u_X2_serveQueue u_X2_serveQueue_25 u_X2_firstWithoutSlot g_queuesTask
  rw [show ul_X2_firstWithoutSlot_2 U S N N 0 t = _ from fw_c hU H hQ N 0 (by omega) (by omega), Nat.sub_zero, hQ.2.2.1]
  have e9 := fw_r (N := N) hU hS5 H hQ qs.length N (Nat.le_refl _) (by omega)
  rw [Nat.sub_self] at e9
  rw [show l_queuesTask_9 U S N N (-1) (nI qs.length - 1) s = _ from e9]
  unfold qtl
  simp only [Option.bind_some]
  cases ef : fq t.2.2.2.1 qs qs.length 0 with
  | none =>
    simp only [vl_0, Option.bind_some, not_true_eq_false, if_false, rf]
    exact ⟨0, t, s, rfl, rfl, Or.inl ⟨rfl, rfl, rfl⟩⟩
  | some u =>
    have hu : u ∈ qs ∧ t.2.2.2.1 10 u 19 = none := by
      unfold fq at ef
      cases e : ff (pq t.2.2.2.1 qs) qs.length 0 with
      | none => rw [e] at ef; cases ef
      | some i =>
        rw [e] at ef
        have e2 : qs.getD i 0 = u := Option.some.inj ef
        obtain ⟨_, b, c⟩ := ff_some e
        rw [← e2]
        exact ⟨List.mem_of_getElem? (getD_q (by omega)), of_decide_eq_true c⟩
    have huU : u < U := hQ.2.1 u hu.1
    have hu1 : s.2.1 42 u = 1 := hJ.2.2.2.2.2.1 u hu.1
    simp only [vl_y huU, Option.bind_some, reduceCtorEq, not_false_eq_true, if_true]
    simp only [show ¬ rf (some u) = -1 from nI_ne (by omega), not_false_eq_true, if_true]
    unfold u_X2_freeSlot
    rw [show ul_X2_freeSlot_2 U S N N 0 t = _ from fs_c hU hS5 H N 0 (by omega) (by omega), Nat.sub_zero, H.2.2.2.2.1.1.2]
    have e57 := fs_r (N := N) hU hS5 H (rf (some u)) S N (Nat.le_refl _) (by omega)
    rw [Nat.sub_self] at e57
    rw [show l_queuesTask_57 U S N N (rf (some u)) (-1) (nI S - 1) s = _ from e57]
    unfold ftl
    simp only [Option.bind_some]
    cases eg : ff (pf t.2.2.2.1) S 0 with
    | some k =>
      obtain ⟨_, hk', hpk⟩ := ff_some eg
      have hk : k < S := by omega
      have hok : t.2.2.2.1 8 k 2 = none := of_decide_eq_true hpk
      obtain ⟨g39, g40⟩ := hJ.2.2.2.2.1.2 k hk hok
      have t3 : t.1 8 k 3 = 0 := by rw [H.2.1 (3, 39) (by decide) k]; exact g39
      have t4 : t.1 8 k 4 = 0 := by rw [H.2.1 (4, 40) (by decide) k]; exact g40
      simp only [vl_y hk, Option.bind_some, reduceCtorEq, not_false_eq_true, if_true]
      simp only [show ¬ rf (some k) = -1 from nI_ne (by omega), not_false_eq_true, if_true]
      rw [t3, if_pos rfl, rl0_c hok t3 t4]
      simp only [Option.bind_some]
      rw [st_cc]
      unfold g_queuesTask_89 g_queuesTask_129 g_queuesTask_144
      simp only [show ¬ rf (some k) = -1 from nI_ne (by omega), not_false_eq_true, if_true]
      rw [show rf (some k) = nI k from rfl, rA_y (by omega) hk, show s.2.1 38 k = -1 by rw [(H.2.2.2.2.1.2.2.1 k hk).2.1, hok]; rfl]
      simp only [Option.bind_some, if_true]
      rw [st_rr]
      exact ⟨1, _, _, rfl, rfl, Or.inr ⟨rfl, Sim_go H (Or.inr (Or.inl rfl)) huU hk, hQ, HJ_go hJ (Or.inr (Or.inl ⟨rfl, hu.2, hok⟩))⟩⟩
    | none =>
      have hno := ff_none eg
      have hf : ∀ k, k < S → t.2.2.2.1 8 k 2 = some (ow t.2.2.2.1 k) ∧ ow t.2.2.2.1 k < U := by
        intro k hk
        have := of_decide_eq_false (hno k (by omega) (by omega))
        cases e : t.2.2.2.1 8 k 2 with
        | none => exact absurd e this
        | some j =>
          have e2 : ow t.2.2.2.1 k = j := by unfold ow; rw [e]; rfl
          rw [e2]
          exact ⟨rfl, (H.2.2.2.2.1.2.2.1 k hk).2.2 j e⟩
      simp only [vl_0, Option.bind_some, not_true_eq_false, if_false]
      simp only [show rf (none : Option Nat) = -1 from rfl, not_true_eq_false, if_false]
      unfold u_X2_slotToClear
      rw [show ul_X2_slotToClear_4 U S N N none 0 t = _ from sc_c hU hS5 H hf N 0 none (by omega) (by omega), gv hU hS5 hN H hf]
      simp only [Option.bind_some]
      unfold g_queuesTask_89 g_queuesTask_129 g_queuesTask_144
      cases ep : pick S t.2.2.2.1 s 0 none with
      | none =>
        simp only [vl_0, Option.bind_some, not_true_eq_false, if_false]
        exact ⟨0, t, s, rfl, rfl, Or.inl ⟨rfl, rfl, rfl⟩⟩
      | some k =>
        have hp : k < S ∧ s.2.1 42 (ow t.2.2.2.1 k) ≠ 5 ∧ t.2.2.2.1 2 0 8 ≠ some (ow t.2.2.2.1 k) := by
          unfold pick at ep
          rw [Nat.sub_zero] at ep
          cases e : ff (pA1 t.2.2.2.1 s) S 0 with
          | some k2 =>
            rw [e] at ep
            have e2 : k2 = k := Option.some.inj ep
            obtain ⟨_, b, c⟩ := ff_some e
            have c' := of_decide_eq_true c
            rw [← e2]
            exact ⟨by omega, c'.2, fun z => c'.1 (hJ.2.2.2.2.2.2.1 _ z).2.1⟩
          | none =>
            rw [e] at ep
            obtain ⟨_, b, c⟩ := ff_some (show ff (pB2 t.2.2.2.1 s) S 0 = some k from ep)
            have c' := of_decide_eq_true c
            exact ⟨by omega, by rw [c'.1]; decide, c'.2.2⟩
        obtain ⟨hk, h5, hrn⟩ := hp
        obtain ⟨f1, f2⟩ := hf k hk
        have h38 : s.2.1 38 k = nI (ow t.2.2.2.1 k) := by rw [(H.2.2.2.2.1.2.2.1 k hk).2.1, f1]; rfl
        have h10 : t.2.2.2.1 10 (ow t.2.2.2.1 k) 19 = some k := (hJ.2.2.2.2.1.1 _ k f2 hk).mpr f1
        simp only [vl_y hk, Option.bind_some, reduceCtorEq, not_false_eq_true, if_true]
        simp only [show ¬ rf (some k) = -1 from nI_ne (by omega), not_false_eq_true, if_true]
        rw [show rf (some k) = nI k from rfl, rA_y (by omega) hk, h38, rA_y (by omega) hk, show t.1 8 k 3 = s.2.1 39 k from H.2.1 (3, 39) (by decide) k]
        simp only [Option.bind_some, show ¬ nI (ow t.2.2.2.1 k) = -1 from nI_ne (by omega), if_false]
        by_cases c39 : s.2.1 39 k = 0
        · rw [if_pos c39, if_pos c39, rl_c f2 f1, rl_r hU hS5 f2 hk h38]
          simp only [Option.bind_some]
          rw [st_cc, st_rr]
          have hne : u ≠ ow t.2.2.2.1 k := fun z => by have := hu.2; rw [z, h10] at this; cases this
          have k1 := Inv_rl h f2 hk h10 h5 hrn (fun _ => by rw [hc0]; simp)
          refine ⟨1, _, _, rfl, rfl, Or.inr ⟨rfl, Sim_go k1.1 (Or.inr (Or.inl rfl)) huU hk, k1.2.1, HJ_go k1.2.2 (Or.inr (Or.inl ⟨rfl, ?_, ?_⟩))⟩⟩
          · show up3 (up3 t.2.2.2.1 10 (ow t.2.2.2.1 k) 19 none) 8 k 2 none 10 u 19 = none
            rw [up3_n _ _ (fun e => absurd e.1 (by decide)), up3_n _ _ (fun e => hne e.2.1)]
            exact hu.2
          · exact up3_s _ _ _ _ _
        · rw [if_neg c39, if_neg c39, f1]
          simp only [vl_y f2, Option.bind_some]
          rw [st_cc, st_rr]
          exact ⟨1, _, _, rfl, rfl, Or.inr ⟨rfl, Sim_go H (Or.inl rfl) f2 hk, hQ, HJ_go hJ (Or.inl ⟨rfl, h10, hrn, h5⟩)⟩⟩
theorem al_lf (hU : U < 7) (hS5 : S < 5) (hBb : B < 2 ^ 31) (hN : 100 < N) (h : Inv U S t s qs T B P 0) (h67 : s.1 67 = 0) : ∃ t2 s2, u_X2_lookForTask U S N t = some ((), t2) ∧ g_looksFor U S N s = some ((), s2) ∧ Inv U S t2 s2 qs T B P 0 := by
  obtain ⟨H, hQ, hJ⟩ := id h
  obtain ⟨x1, t1, s1, a1, a2, a3⟩ := al_bt (N := N) hU hS5 hBb hN h
  obtain ⟨x2, t2, s2, b1, b2, b3⟩ := al_qt (N := N) hU hS5 hN h h67
  unfold u_X2_lookForTask u_X2_lookForTask_37 g_looksFor g_looksFor_34
  rw [show t.1 1 0 4 = s.1 77 from H.2.2.1 (1, 4, 77) (by decide)]
  by_cases c : s.1 77 = 0
  · rw [if_pos c, if_pos c, a1, a2]
    simp only [Option.bind_some]
    rcases a3 with ⟨rfl, rfl, rfl⟩ | ⟨rfl, hi⟩
    · simp only [not_true_eq_false, if_false]
      rw [b1, b2]
      rcases b3 with ⟨rfl, rfl, rfl⟩ | ⟨rfl, hi⟩
      · exact ⟨_, _, rfl, rfl, h⟩
      · exact ⟨_, _, rfl, rfl, hi⟩
    · simp only [o10, not_false_eq_true, if_true]
      exact ⟨_, _, rfl, rfl, hi⟩
  · rw [if_neg c, if_neg c, b1, b2]
    simp only [Option.bind_some]
    rcases b3 with ⟨rfl, rfl, rfl⟩ | ⟨rfl, hi⟩
    · simp only [not_true_eq_false, if_false]
      rw [a1, a2]
      rcases a3 with ⟨rfl, rfl, rfl⟩ | ⟨rfl, hi⟩
      · exact ⟨_, _, rfl, rfl, h⟩
      · exact ⟨_, _, rfl, rfl, hi⟩
    · simp only [o10, not_false_eq_true, if_true]
      exact ⟨_, _, rfl, rfl, hi⟩
/-- the channel's part of a tick -/
def chC (U S N : Nat) (t : CS) : Option (Unit × CS) := (u_X1_isIdle U S N t).bind fun q4 => if ¬ q4.1 = 0 then u_X2_tick_95 U S N q4.2 else (u_X1_advance U S N q4.2).bind fun q7 => if q7.1 = 0 then u_X2_tick_95 U S N q7.2 else (vl U (q7.2.2.2.2.1 1 0 1)).bind fun v10 => (vl S (q7.2.2.2.2.1 1 0 2)).bind fun v12 => (u_X2_finishTask U S N v10 v12 q7.2).bind fun q13 => u_X2_tick_95 U S N q13.2
def chR (U S N : Nat) (s : RS) : Option (Unit × RS) := if (s.1 67) ≤ 0 then g_tick_42 U S N s else (g_moves U S N s).bind fun q3 => g_tick_42 U S N q3.2
theorem idle_y (h : t.1 1 0 0 = s.1 67) : u_X1_isIdle U S N t = some (if s.1 67 = 0 then 1 else 0, t) := by
  unfold u_X1_isIdle u_X1_isIdle_12
  rw [h]
  by_cases c : s.1 67 = 0
  · rw [if_neg (not_not_intro c), if_pos c]; rfl
  · rw [if_pos c, if_neg c]; rfl
theorem al_95 (hU : U < 7) (hS5 : S < 5) (hBb : B < 2 ^ 31) (hN : 100 < N) (h : Inv U S t s qs T B P 0) : ∃ t2 s2, u_X2_tick_95 U S N t = u_X2_tick_109 U S N t2 ∧ g_tick_42 U S N s = g_tick_53 U S N s2 ∧ Inv U S t2 s2 qs T B P 0 := by
  unfold u_X2_tick_95 g_tick_42
  rw [idle_y (s := s) (h.1.2.2.1 (1, 0, 67) (by decide))]
  simp only [Option.bind_some]
  by_cases c : s.1 67 = 0
  · obtain ⟨t2, s2, a1, a2, a3⟩ := al_lf (N := N) hU hS5 hBb hN h c
    rw [if_pos c, if_neg (by decide), if_neg (not_not_intro c), a1, a2]
    exact ⟨t2, s2, rfl, rfl, a3⟩
  · rw [if_neg c, if_pos rfl, if_pos c]
    exact ⟨t, s, rfl, rfl, h⟩
theorem al_ch (hU : U < 7) (hS5 : S < 5) (hBb : B < 2 ^ 31) (hN : 100 < N) (h : Inv U S t s qs T B P 0) : ∃ t2 s2 qs2, chC U S N t = u_X2_tick_109 U S N t2 ∧ chR U S N s = g_tick_53 U S N s2 ∧ Inv U S t2 s2 qs2 T B P 0 := by
  obtain ⟨H, hQ, hJ⟩ := id h
  unfold chC chR
  rw [idle_y (s := s) (H.2.2.1 (1, 0, 67) (by decide))]
  simp only [Option.bind_some]
  by_cases c : s.1 67 = 0
  · rw [if_pos c, if_pos (by decide), if_pos (by rw [c]; decide)]
    obtain ⟨t2, s2, a1, a2, a3⟩ := al_95 (N := N) hU hS5 hBb hN h
    exact ⟨t2, s2, qs, a1, a2, a3⟩
  · have hpos : ¬ s.1 67 ≤ 0 := by
      rcases H.2.2.2.2.2.2.1 with ⟨z, _⟩ | ⟨z, _⟩
      · exact absurd z c
      · rcases z with z | z | z | z <;> rw [z] <;> decide
    rw [if_neg c, if_neg (by decide), if_neg hpos]
    obtain ⟨t1, s1, u, k, d, e1, e2, ⟨hu, hk⟩, c1, c2, h69, h67, i1, i0⟩ := al_mv (N := N) hU hS5 hN h c
    rw [e1, e2]
    cases d with
    | false =>
      simp only [Bool.false_eq_true, if_false, Option.bind_some, if_true]
      obtain ⟨t2, s2, a1, a2, a3⟩ := al_95 (N := N) hU hS5 hBb hN (i0 rfl)
      exact ⟨t2, s2, qs, a1, a2, a3⟩
    | true =>
      obtain ⟨t2, s2, qs2, f1, f2, f3, f4⟩ := al_end_task (N := N) hU hS5 i1 hu hk c1 c2 h69
      simp only [if_true, Option.bind_some, o10, if_false]
      rw [c1, c2, f2]
      simp only [vl_y hu, vl_y hk, Option.bind_some]
      rw [f1]
      simp only [Option.bind_some]
      obtain ⟨t3, s3, a1, a2, a3⟩ := al_95 (N := N) hU hS5 hBb hN f3
      exact ⟨t3, s3, qs2, a1, a2, a3⟩
def pk (T i : Nat) (j : Nat) : Nat := if j < i then T else T - 1
theorem al_us (hU : U < 7) (hS5 : S < 5) (hBb : B < 2 ^ 31) (hN : 100 < N) (hT : 1 ≤ T) (hTb : T < 2 ^ 31) : ∀ (m i : Nat) (t : CS) (s : RS) (qs : List Nat), Inv U S t s qs T B (pk T i) 0 → i ≤ U → U < i + m → ∃ t2 s2 qs2, ul_X2_tick_12 U S N m (nI i) t = chC U S N t2 ∧ l_tick_12 U S N m (nI i) s = chR U S N s2 ∧ Inv U S t2 s2 qs2 T B (fun _ => T) 0 := by
  intro m
  induction m with
  | zero => intro i t s qs _ h1 h2; omega
  | succ m ih =>
    intro i t s qs h h1 h2
    obtain ⟨H, hQ, hJ⟩ := id h
    show ∃ t2 s2 qs2, uh_X2_tick_12 U S N (ul_X2_tick_12 U S N m) (nI i) t = _ ∧ h_tick_12 U S N (l_tick_12 U S N m) (nI i) s = _ ∧ _
    unfold uh_X2_tick_12 h_tick_12
    rw [H.2.2.2.2.1.1.1]
    by_cases hi : U ≤ i
    · rw [if_pos ((leI (by omega) (by omega)).mpr hi), if_pos ((leI (by omega) (by omega)).mpr hi)]
      refine ⟨t, s, qs, rfl, rfl, H, hQ, HJ_P hJ (fun j => ?_)⟩
      unfold pk
      split <;> omega
    · have hlt : i < U := by omega
      rw [if_neg (fun z => hi ((leI (by omega) (by omega)).mp z)), if_neg (fun z => hi ((leI (by omega) (by omega)).mp z)), rQ_y (by omega) hlt]
      simp only [Option.bind_some]
      obtain ⟨t1, s1, qs1, a1, a2, a3⟩ := al_clk (N := N) (P2 := pk T (i + 1)) hU hN h hlt (fun j => by unfold pk; split <;> split <;> omega) (by unfold pk; rw [if_neg (by omega), if_pos (by omega)]; omega) (by unfold pk; rw [if_pos (by omega)]; exact hTb)
      have ea : (if t.1 10 i 8 = 4 then u_X2_tick_46 U S N (ul_X2_tick_12 U S N m) (nI i) (some i) t else if t.1 6 (2 * i + 1) 2 ≤ 0 then u_X2_tick_51 U S N (ul_X2_tick_12 U S N m) (nI i) t else u_X2_tick_46 U S N (ul_X2_tick_12 U S N m) (nI i) (some i) t) = ul_X2_tick_12 U S N m (nI (i + 1)) t1 := by
        unfold att at a1
        unfold u_X2_tick_46 u_X2_tick_51
        rw [nI_1]
        by_cases c4 : t.1 10 i 8 = 4
        · rw [if_pos c4] at a1 ⊢
          rw [a1]
          rfl
        · rw [if_neg c4] at a1 ⊢
          by_cases c0 : t.1 6 (2 * i + 1) 2 ≤ 0
          · rw [if_pos c0] at a1 ⊢
            have e : t = t1 := (Prod.mk.inj (Option.some.inj a1)).2
            rw [e]
          · rw [if_neg c0] at a1 ⊢
            rw [a1]
            rfl
      rw [ea, a2]
      simp only [Option.bind_some]
      rw [nI_1]
      exact ih (i + 1) t1 s1 qs1 a3 (by omega) (by omega)
theorem HJ_T {R : Rf} {v w : Nat → Int32} (h : HJ U S R v w s qs T B P D) (T2 : Nat) : HJ U S R v w (pI s 66 (nI T2)) qs T2 B P D := by
  obtain ⟨hW, hT, hB, hX, hS, hQ, hR, hO⟩ := h
  exact ⟨hW, ⟨rfl, hT.2⟩, hB, hX, hS, hQ, hR, hO⟩
/-- a tick, up to the processor -/
theorem al_tk (hU : U < 7) (hS5 : S < 5) (hBb : B < 2 ^ 31) (hN : 100 < N) (hTb : T + 1 < 2 ^ 31) (h : Inv U S t s qs T B (fun _ => T) 0) : ∃ t2 s2 qs2, u_X2_tick U S N t = u_X2_tick_109 U S N t2 ∧ g_tick U S N s = g_tick_53 U S N s2 ∧ Inv U S t2 s2 qs2 (T + 1) B (fun _ => T + 1) 0 := by
  obtain ⟨H, hQ, hJ⟩ := id h
  have e66 : s.1 66 = nI T := hJ.2.1.1
  have e7 : t.1 2 0 7 = nI T := (H.2.2.1 (2, 7, 66) (by decide)).trans e66
  unfold u_X2_tick g_tick
  simp only [Option.bind_some]
  rw [e66, e7, nI_1]
  have hI : Inv U S (qI t 2 0 7 (nI (T + 1))) (pI s 66 (nI (T + 1))) qs (T + 1) B (pk (T + 1) 0) 0 := by
    refine ⟨Sim_B H (q := (2, 7, 66)) (by decide) _, hQ, HJ_P (HJ_T hJ (T + 1)) (fun j => ?_)⟩
    unfold pk
    rw [if_neg (by omega)]
    omega
  obtain ⟨t1, s1, qs1, a1, a2, a3⟩ := al_us (N := N) hU hS5 hBb hN (by omega) hTb N 0 _ _ _ hI (by omega) (by omega)
  rw [show ul_X2_tick_12 U S N N 0 (qI t 2 0 7 (nI (T + 1))) = _ from a1, show l_tick_12 U S N N 0 (pI s 66 (nI (T + 1))) = _ from a2]
  exact al_ch hU hS5 hBb hN a3
end
