/-! LAYER 3, the house: READY, leaving the queue, who runs -/
theorem up1_comm {α : Type} (f : Nat → α) {k l : Nat} (h : k ≠ l) (x y : α) : up1 (up1 f k x) l y = up1 (up1 f l y) k x := by
  funext j
  unfold up1
  by_cases h1 : j = l
  · rw [if_pos h1, if_neg (fun z => h (z.symm.trans h1)), if_pos h1]
  · rw [if_neg h1]
    by_cases h2 : j = k
    · rw [if_pos h2, if_pos h2]
    · rw [if_neg h2, if_neg h2, if_neg h1]
theorem pA_comm (s : RS) {k l : Nat} (h : k ≠ l) (i j : Nat) (x y : Int32) : pA (pA s k i x) l j y = pA (pA s l j y) k i x := by
  unfold pA
  dsimp only
  rw [up1_n _ _ (Ne.symm h), up1_n _ _ h, up1_comm _ h]
theorem pI_comm (s : RS) {k l : Nat} (h : k ≠ l) (x y : Int32) : pI (pI s k x) l y = pI (pI s l y) k x := by
  unfold pI
  dsimp only
  rw [up1_comm _ h]
theorem qsR_pA (s : RS) (A : Nat → Int32) (n : Nat) {k : Nat} (h : k ≠ 62) (i : Nat) (x : Int32) : pA (qsR s A n) k i x = qsR (pA s k i x) A n := by
  unfold pA qsR
  dsimp only
  rw [up1_n _ _ h, up1_comm _ (Ne.symm h)]
section
variable {U S N : Nat} {t : CS} {s : RS} {qs : List Nat} {T B D : Nat} {P : Nat → Nat}
theorem Inv_rd (hU : U < 7) (h : Inv U S t s qs T B P D) {u : Nat} (hu : u < U) (h1 : s.2.1 42 u ≠ 1) (h5 : D < 2 → s.2.1 42 u ≠ 5) : u_X2_makeReady U S N (some u) t = some ((), rdC t u qs.length) ∧ g_becomesReady U S N (nI u) s = some ((), rdR s u qs.length) ∧ Inv U S (rdC t u qs.length) (rdR s u qs.length) (qs ++ [u]) T B P D := by
  obtain ⟨H, hQ, hJ⟩ := h
  have hn : u ∉ qs := fun z => h1 (hJ.2.2.2.2.2.1 u z)
  have hr : t.2.2.2.1 2 0 8 ≠ some u := fun z => h1 (hJ.2.2.2.2.2.2.1 u z).2.1
  refine ⟨rd_c hU H hQ hu hn, rd_r hU hQ hu hn, (Sim_rd hU H hQ hu hn).1, (Sim_rd hU H hQ hu hn).2, ?_⟩
  show HJ U S t.2.2.2.1 (f17 (qI t 10 u 8 1)) (f18 (qI t 10 u 8 1)) (rdR s u qs.length) (qs ++ [u]) T B P D
  rw [f17_n _ _ _ (by decide), f18_n _ _ _ (by decide)]
  refine HJ_q (HJ_st hJ u (x := 1) h5 (by decide) (fun _ => rfl) (fun _ => rfl)) ?_ hr ?_ ?_ rfl
  · exact upd_y _ _ _
  · intro k hk
    show up1 s.1 63 _ k = s.1 k
    rw [up1_n _ _ hk]
  · intro k hk
    show up1 _ 62 _ k = _
    rw [up1_n _ _ hk]
/-- the queue without u -/
def qw (qs : List Nat) (u : Nat) : List Nat := qs.filter (fun j => j ≠ u)
theorem qw_mem {qs : List Nat} {u j : Nat} : j ∈ qw qs u ↔ j ∈ qs ∧ j ≠ u := by
  unfold qw
  rw [List.mem_filter]
  simp
theorem qw_n {qs : List Nat} {u : Nat} (h : u ∉ qs) : qw qs u = qs := by
  unfold qw
  rw [List.filter_eq_self]
  intro a ha
  simp
  exact fun e => h (e ▸ ha)
theorem qw_y {pre post : List Nat} {u : Nat} (h : (pre ++ u :: post).Nodup) : qw (pre ++ u :: post) u = pre ++ post := by
  have h1 : u ∉ pre := by
    intro z
    rw [List.nodup_append] at h
    exact h.2.2 u z u List.mem_cons_self rfl
  have h2 : u ∉ post := by
    rw [List.nodup_append] at h
    exact (List.nodup_cons.mp h.2.1).1
  unfold qw
  rw [List.filter_append, List.filter_cons_of_neg (by simp)]
  have e1 := qw_n h1
  have e2 := qw_n h2
  unfold qw at e1 e2
  rw [e1, e2]
theorem leave_r (hU : U < 7) (hN : 100 < N) (hQ : isQ U t s qs) {u : Nat} (hu : u < U) : ∃ A, g_leavesQueue U S N (nI u) s = some ((), qsR s A (qw qs u).length) ∧ ∀ i j, (qw qs u)[i]? = some j → A i = nI j := by
  have hn := nd_len U qs hQ.1 hQ.2.1
  obtain ⟨A, e1, e2⟩ := lv_r (S := S) (N := N) (s := s) hU hu qs N 0 (s.2.1 62) [] (by simp) hn (by simp) hQ.2.1 (fun i j hi => by simp at hi) (fun i j hi => by rw [Nat.zero_add]; exact (hQ.2.2.2 i j hi).2) (by omega)
  refine ⟨A, ?_, fun i j hi => e2 i j (by simpa [qw] using hi)⟩
  unfold g_leavesQueue
  rw [← qsR_id hQ.2.2.1] at e1
  show l_leavesQueue_4 U S N N (nI u) (nI 0) (nI 0) s = _
  simpa [qw] using e1
theorem leave_c (hU : U < 7) (hN : 100 < N) (H : t.1 5 0 1 = nI qs.length) (hnd : qs.Nodup) (hlt : ∀ j, j ∈ qs → j < U) (hq : ∀ i j, qs[i]? = some j → t.2.2.2.2 i = some j) {u : Nat} : ∃ Q, u_X5_remove U S N (some u) t = some ((), qsC t Q (qw qs u).length) ∧ ∀ i j, (qw qs u)[i]? = some j → Q i = some j := by
  have hn := nd_len U qs hnd hlt
  unfold u_X5_remove u_X5_placeOf
  rcases pl_c (S := S) (N := N) (u := u) hU hn H qs N 0 (by simp) hlt (fun i j hi => by rw [Nat.zero_add]; exact hq i j hi) (by omega) with ⟨h1, h2⟩ | ⟨pre, post, h1, h2, h3⟩
  · refine ⟨t.2.2.2.2, ?_, ?_⟩
    · rw [show (0 : Int32) = nI 0 from rfl, h2]
      simp only [Option.bind_some, not_true_eq_false, if_false]
      rw [qw_n h1, ← qsC_id H]
    · rw [qw_n h1]; exact hq
  · have hl : qs.length = pre.length + 1 + post.length := by rw [h1]; simp; omega
    obtain ⟨Q, e1, e2⟩ := rm_c (S := S) (N := N) (t := t) hU post N t.2.2.2.2 pre (by omega) (fun j hj => hlt j (by rw [h1]; exact List.mem_append_right _ (List.mem_cons_of_mem _ hj))) (fun i j hi => hq i j (by
        have := (List.getElem?_eq_some_iff.mp hi).1
        rw [h1, List.getElem?_append_left this]; exact hi)) (fun i j hi => hq _ j (by
        rw [h1, List.getElem?_append_right (by omega), show pre.length + 1 + i - pre.length = i + 1 by omega]
        simpa using hi)) (by omega)
    have ey : qw qs u = pre ++ post := by rw [h1]; exact qw_y (h1 ▸ hnd)
    refine ⟨Q, ?_, ?_⟩
    · rw [show (0 : Int32) = nI 0 from rfl, h3]
      simp only [Option.bind_some, Nat.zero_add]
      rw [if_pos (nI_ne (by omega)), ey]
      rw [← hl, ← qsC_id H] at e1
      exact e1
    · rw [ey]; exact e2
theorem isQ_w (hQ : isQ U t s qs) {u : Nat} {t2 : CS} {s2 : RS} {Q : Nat → Option Nat} {A : Nat → Int32} (hC : ∀ i j, (qw qs u)[i]? = some j → Q i = some j) (hA : ∀ i j, (qw qs u)[i]? = some j → A i = nI j) : isQ U (qsC t2 Q (qw qs u).length) (qsR s2 A (qw qs u).length) (qw qs u) := by
  refine ⟨hQ.1.filter _, fun j hj => hQ.2.1 j (qw_mem.mp hj).1, rfl, fun i j hi => ⟨hC i j hi, hA i j hi⟩⟩
theorem Sim_w (H : Sim U S t s) (hQ : isQ U t s qs) {u : Nat} {Q : Nat → Option Nat} {A : Nat → Int32} (hC : ∀ i j, (qw qs u)[i]? = some j → Q i = some j) (hA : ∀ i j, (qw qs u)[i]? = some j → A i = nI j) : Sim U S (qsC t Q (qw qs u).length) (qsR s A (qw qs u).length) := by
  refine Sim_Q H (isQ_w (t2 := t) (s2 := s) hQ hC hA) rfl ?_ rfl rfl ?_ ?_ rfl
  · intro ci j k h
    show up3 t.1 5 0 1 _ ci j k = _
    rw [up3_n _ _ h]
  · intro k h
    show up1 s.1 63 _ k = _
    rw [up1_n _ _ h]
  · intro k h
    show up1 s.2.1 62 _ k = _
    rw [up1_n _ _ h]
theorem HJ_w {R : Rf} {v w : Nat → Int32} (h : HJ U S R v w s qs T B P D) (u : Nat) (A : Nat → Int32) (n : Nat) : HJ U S R v w (qsR s A n) (qw qs u) T B P D := by
  refine HJ_qs h (fun j hj => (qw_mem.mp hj).1) ?_ ?_ rfl
  · intro k h
    show up1 s.1 63 _ k = _
    rw [up1_n _ _ h]
  · intro k h
    show up1 s.2.1 62 _ k = _
    rw [up1_n _ _ h]
theorem SmB_x {t2 : CS} {s2 : RS} (H : SmB t s) (h : ∀ p, p ∈ mB → t2.1 p.1 0 p.2.1 = t.1 p.1 0 p.2.1 ∧ s2.1 p.2.2 = s.1 p.2.2) : SmB t2 s2 := by
  intro p hp
  rw [(h p hp).1, (h p hp).2]
  exact H p hp
theorem SmB_r (H : SmB t s) (o : Option Nat) (x y z : Int32) : SmB (qI (qR t 2 0 8 o) 2 0 9 x) (pI (pI s 64 y) 65 z) := by
  intro p hp
  simp only [mB, List.mem_cons, List.not_mem_nil, or_false] at hp
  rcases hp with rfl | rfl | rfl | rfl | rfl | rfl | rfl | rfl | rfl | rfl | rfl | rfl <;> exact H _ (by decide)
/-- nobody runs -/
theorem Sim_r0 (H : Sim U S t s) : Sim U S (qI (qR t 2 0 8 none) 2 0 9 0) (pI s 64 (-1)) := by
  obtain ⟨hA, hSs, hB, hC, hR, hL, hK, hQ, hG, hM, hT⟩ := H
  refine ⟨hA, hSs, ?_, hC, ?_, ?_, hK, hQ, hG, hM, hT⟩
  · intro p hp
    simp only [mB, List.mem_cons, List.not_mem_nil, or_false] at hp
    rcases hp with rfl | rfl | rfl | rfl | rfl | rfl | rfl | rfl | rfl | rfl | rfl | rfl <;> exact hB _ (by decide)
  · exact ⟨hR.1, hR.2.1, hR.2.2.1, rfl, vd_n _⟩
  · intro h
    exact absurd rfl h
/-- u runs -/
theorem Sim_r1 (H : Sim U S t s) {u : Nat} (hu : u < U) (x : Int32) : Sim U S (qI (qR t 2 0 8 (some u)) 2 0 9 x) (pI (pI s 64 (nI u)) 65 x) := by
  obtain ⟨hA, hSs, hB, hC, hR, hL, hK, hQ, hG, hM, hT⟩ := H
  refine ⟨hA, hSs, SmB_r hB _ _ _ _, hC, ?_, ?_, hK, hQ, hG, hM, hT⟩
  · exact ⟨hR.1, hR.2.1, hR.2.2.1, rfl, vd_s hu⟩
  · intro _
    rfl
/-- the slot of the one that runs has run -/
theorem Inv_et (hU : U < 7) (hS5 : S < 5) (h : Inv U S t s qs T B P D) {u k : Nat} (hu : u < U) (hk : t.2.2.2.1 10 u 19 = some k) : u_X2_endTurn U S N (some u) t = some ((), qI (qI (qR t 2 0 8 none) 2 0 9 0) 8 k 4 1) ∧ (rA U s 41 (nI u)).bind (fun v => wZ S s 40 v 1) = some (pA s 40 k 1) ∧ Inv U S (qI (qI (qR t 2 0 8 none) 2 0 9 0) 8 k 4 1) (pI (pA s 40 k 1) 64 (-1)) qs T B P D ∧ k < S := by
  obtain ⟨H, hQ, hJ⟩ := h
  obtain ⟨h0, h1, h2⟩ := H.2.2.2.2.1.2.1 u hu
  have hkS : k < S := h2 k hk
  refine ⟨?_, ?_, ⟨?_, hQ, HJ_r0 (HJ_f40 hJ 1 (HJ_own hJ hu hkS hk))⟩, hkS⟩
  · unfold u_X2_endTurn u_X2_endTurn_25 qZ
    simp only [Option.bind_some]
    rw [show (qI (qR t 2 0 8 none) 2 0 9 0).2.2.2.1 10 u 19 = some k from hk]
    simp only [vl_y hkS, Option.bind_some, reduceCtorEq, if_false]
    rfl
  · rw [rA_y (by omega) hu, h1, hk]
    simp only [Option.bind_some, rf]
    rw [wZ_y (by omega) hkS _ _ (Or.inr rfl)]
  · exact Sim_S (Sim_r0 H) (q := (4, 40)) (by decide) k 1
theorem al_halt (hU0 : 0 < U) (hU : U < 7) (hS5 : S < 5) (hN : 100 < N) (h : Inv U S t s qs T B P D) (x1 : Int32) : ∃ x t2 s2 qs2, u_X11_halt U S N x1 t = some (x, t2) ∧ g_halt U S N x1 s = some (x, s2) ∧ Inv U S t2 s2 qs2 T B P D := by
  obtain ⟨H, hQ, hJ⟩ := id h
  have h31 := H.2.2.2.2.1.1.1
  unfold u_X11_halt u_X11_halt_20 g_halt g_halt_22 g_halt_54
  rcases in_cases U (by omega) x1 with ⟨u, hu, rfl⟩ | hx
  · rw [isU_y h31 hU hu, usA_y hU hu]
    simp only [Option.bind_some, vl_y hu, reduceCtorEq, if_false, o10, rA_y (show U < 2 ^ 31 by omega) hu]
    rw [g_in_eq]
    have e8 : t.1 10 u 8 = s.2.1 42 u := H.1 (8, 42) (by decide) u
    have hmb : u_X10_mayBeHalted U S N u t = some (if s.2.1 42 u < 1 then 0 else if 4 < s.2.1 42 u then 0 else 1, t) := by
      unfold u_X10_mayBeHalted u_X10_mayBeHalted_32 u_X10_mayBeHalted_37
      rw [e8]
      generalize s.2.1 42 u = st
      by_cases c1 : st = 1
      · subst c1; rfl
      by_cases c4 : st = 4
      · subst c4; rfl
      by_cases c2 : st = 2
      · subst c2; rfl
      by_cases c3 : st = 3
      · subst c3; rfl
      rw [if_neg c1, if_neg c4, if_neg c2, if_pos c3]
      have : (if st < 1 then (0 : Int32) else if 4 < st then 0 else 1) = 0 := by
        by_cases d1 : st < 1
        · rw [if_pos d1]
        · rw [if_neg d1]
          by_cases d2 : 4 < st
          · rw [if_pos d2]
          · exfalso
            rw [Int32.lt_iff_toInt_lt] at d1 d2
            have f1 : (1 : Int32).toInt = 1 := rfl
            have f4 : (4 : Int32).toInt = 4 := rfl
            have hc : st.toInt = 1 ∨ st.toInt = 2 ∨ st.toInt = 3 ∨ st.toInt = 4 := by omega
            rcases hc with z | z | z | z
            · exact c1 (Int32.toInt_inj.mp (z.trans rfl))
            · exact c2 (Int32.toInt_inj.mp (z.trans rfl))
            · exact c3 (Int32.toInt_inj.mp (z.trans rfl))
            · exact c4 (Int32.toInt_inj.mp (z.trans rfl))
      rw [this]
      rfl
    rw [hmb]
    simp only [Option.bind_some]
    by_cases hh : (if s.2.1 42 u < 1 then (0 : Int32) else if 4 < s.2.1 42 u then 0 else 1) = 0
    · rw [hh, if_neg (not_not_intro rfl), if_neg (not_not_intro rfl)]
      exact ⟨0, t, s, qs, rfl, rfl, h⟩
    · have h5 : s.2.1 42 u ≠ 5 := fun z => hh (by rw [z]; rfl)
      rw [if_pos hh, if_pos hh]
      have ht5 : t.1 5 0 1 = nI qs.length := by rw [H.2.2.1 (5, 1, 63) (by decide)]; exact hQ.2.2.1
      obtain ⟨A, r1, r2⟩ := leave_r (S := S) (N := N) hU hN hQ hu
      obtain ⟨Q, c1, c2⟩ := leave_c (S := S) (N := N) (t := qI t 10 u 8 6) (u := u) hU hN ht5 hQ.1 hQ.2.1 (fun i j hi => (hQ.2.2.2 i j hi).1)
      unfold u_X2_stop u_X2_stop_27
      simp only [Option.bind_some]
      rw [c1, r1]
      simp only [Option.bind_some]
      have hr1 : (qsC (qI t 10 u 8 6) Q (qw qs u).length).2.2.2.1 2 0 8 = t.2.2.2.1 2 0 8 := rfl
      have hr2 : (qsR s A (qw qs u).length).1 64 = rf (t.2.2.2.1 2 0 8) := H.2.2.2.2.1.2.2.2.1
      have hvd : vd U (t.2.2.2.1 2 0 8) := H.2.2.2.2.1.2.2.2.2
      have hS1 : Sim U S (qsC (qI t 10 u 8 6) Q (qw qs u).length) (qsR (pA s 42 u 6) A (qw qs u).length) := Sim_w (Sim_U H (q := (8, 42)) (by decide) u 6) hQ c2 r2
      have hQ1 : isQ U (qsC (qI t 10 u 8 6) Q (qw qs u).length) (qsR (pA s 42 u 6) A (qw qs u).length) (qw qs u) := isQ_w hQ c2 r2
      have hJ1 := HJ_w hJ u A (qw qs u).length
      have hnq : u ∉ qw qs u := fun z => (qw_mem.mp z).2 rfl
      by_cases hru : t.2.2.2.1 2 0 8 = some u
      · obtain ⟨k, hk⟩ : ∃ k, t.2.2.2.1 10 u 19 = some k := by
          cases e : t.2.2.2.1 10 u 19 with
          | none => exact absurd e (hJ.2.2.2.2.2.2.1 u hru).2.2
          | some k => exact ⟨k, rfl⟩
        rw [hr1, hr2, hru]
        simp only [vl_y hu, Option.bind_some, rf, not_true_eq_false, if_false]
        have hkS : k < S := (H.2.2.2.2.1.2.1 u hu).2.2 k hk
        have e1 : u_X2_endTurn U S N (some u) (qsC (qI t 10 u 8 6) Q (qw qs u).length) = some ((), qI (qI (qR (qsC (qI t 10 u 8 6) Q (qw qs u).length) 2 0 8 none) 2 0 9 0) 8 k 4 1) := by
          unfold u_X2_endTurn u_X2_endTurn_25 qZ
          simp only [Option.bind_some]
          rw [show (qI (qR (qsC (qI t 10 u 8 6) Q (qw qs u).length) 2 0 8 none) 2 0 9 0).2.2.2.1 10 u 19 = some k from hk]
          simp only [vl_y hkS, Option.bind_some, reduceCtorEq, if_false]
          rfl
        rw [e1]
        simp only [Option.bind_some]
        rw [show (qsR s A (qw qs u).length).2.1 41 u = nI k by show s.2.1 41 u = nI k; rw [(H.2.2.2.2.1.2.1 u hu).2.1, hk]; rfl]
        rw [wZ_y (by omega) hkS _ _ (Or.inr rfl)]
        simp only [Option.bind_some]
        rw [wA_y (by omega) hu]
        have er : pA (pI (pA (qsR s A (qw qs u).length) 40 k 1) 64 (-1)) 42 u 6 = pA (pI (qsR (pA s 42 u 6) A (qw qs u).length) 64 (-1)) 40 k 1 := by
          rw [← qsR_pA s A (qw qs u).length (k := 42) (by decide)]
          show pA (pA (pI (qsR s A (qw qs u).length) 64 (-1)) 40 k 1) 42 u 6 = pA (pA (pI (qsR s A (qw qs u).length) 64 (-1)) 42 u 6) 40 k 1
          rw [pA_comm _ (by decide)]
        refine ⟨1, _, _, qw qs u, rfl, rfl, ?_, ?_, ?_⟩
        · rw [er]
          exact Sim_S (Sim_r0 hS1) (q := (4, 40)) (by decide) k 1
        · rw [er]; exact hQ1
        · have := HJ_st (HJ_r0 (HJ_f40 hJ1 (k := k) 1 (HJ_own hJ hu hkS hk))) u (x := 6) (fun _ => h5) (by decide) (fun z => absurd z hnq) (fun z => by cases z)
          show HJ U S (up3 t.2.2.2.1 2 0 8 none) (f17 (qI t 10 u 8 6)) (f18 (qI t 10 u 8 6)) _ _ _ _ _ _
          rw [f17_n _ _ _ (by decide), f18_n _ _ _ (by decide)]
          exact this
      · rw [hr1, hr2]
        have hne : ¬ rf (t.2.2.2.1 2 0 8) = nI u := by
          cases e : t.2.2.2.1 2 0 8 with
          | none => exact fun z => nI_ne (j := u) (by omega) z.symm
          | some j =>
            intro z
            have hj := hvd j e
            have : j = u := (eqI (by omega) (by omega)).mp z
            rw [e, this] at hru
            exact hru rfl
        rw [if_pos hne]
        have hvl : vl U (t.2.2.2.1 2 0 8) = some (t.2.2.2.1 2 0 8) := by
          cases e : t.2.2.2.1 2 0 8 with
          | none => rfl
          | some j => exact vl_y (hvd j e)
        rw [hvl]
        simp only [Option.bind_some]
        rw [if_pos hru, wA_y (by omega) hu]
        have er : pA (qsR s A (qw qs u).length) 42 u 6 = qsR (pA s 42 u 6) A (qw qs u).length := qsR_pA s A _ (by decide) u 6
        refine ⟨1, _, _, qw qs u, rfl, rfl, ?_, ?_, ?_⟩
        · rw [er]; exact hS1
        · rw [er]; exact hQ1
        have := HJ_st hJ1 u (x := 6) (fun _ => h5) (by decide) (fun z => absurd z hnq) (fun z => absurd z hru)
        show HJ U S t.2.2.2.1 (f17 (qI t 10 u 8 6)) (f18 (qI t 10 u 8 6)) _ _ _ _ _ _
        rw [f17_n _ _ _ (by decide), f18_n _ _ _ (by decide)]
        exact this
  · rw [isU_n h31 hU0 hU hx, usA_n hU0 hU hx]
    exact ⟨0, t, s, qs, rfl, rfl, h⟩
theorem al_begin (hU0 : 0 < U) (hU : U < 7) (h : Inv U S t s qs T B P D) (x1 x2 : Int32) : ∃ x t2 s2 qs2, u_X11_begin U S N x1 x2 t = some (x, t2) ∧ g_begin U S N x1 x2 s = some (x, s2) ∧ Inv U S t2 s2 qs2 T B P D := by
  obtain ⟨H, hQ, hJ⟩ := id h
  have h31 := H.2.2.2.2.1.1.1
  unfold u_X11_begin u_X11_begin_27 g_begin g_begin_24
  rcases in_cases U (by omega) x1 with ⟨u, hu, rfl⟩ | hx
  · rw [g_rests_y hU h31 hu, usA_y hU hu]
    have e8 : t.1 10 u 8 = s.2.1 42 u := H.1 (8, 42) (by decide) u
    have hst : u_X10_hasStopped U S N u t = some (if s.2.1 42 u = 6 ∨ s.2.1 42 u = 7 then 1 else 0, t) := by
      unfold u_X10_hasStopped u_X10_hasStopped_18 u_X10_hasStopped_23
      rw [e8]
      by_cases c6 : s.2.1 42 u = 6
      · rw [if_pos c6, if_pos (Or.inl c6)]; rfl
      · rw [if_neg c6]
        by_cases c7 : s.2.1 42 u = 7
        · rw [if_neg (not_not_intro c7), if_pos (Or.inr c7)]; rfl
        · rw [if_pos c7, if_neg (by rintro (z | z); exact c6 z; exact c7 z)]; rfl
    simp only [Option.bind_some, vl_y hu, reduceCtorEq, if_false]
    by_cases hr : s.2.1 42 u = 6 ∨ s.2.1 42 u = 7
    · have hr2 : s.2.1 42 u = 0 ∨ s.2.1 42 u = 6 ∨ s.2.1 42 u = 7 := Or.inr hr
      have h0 : ¬ s.2.1 42 u = 0 := by rcases hr with z | z <;> rw [z] <;> decide
      have h1 : s.2.1 42 u ≠ 1 := by rcases hr with z | z <;> rw [z] <;> decide
      have h5 : s.2.1 42 u ≠ 5 := by rcases hr with z | z <;> rw [z] <;> decide
      rw [if_pos hr2]
      simp only [o10, if_false]
      rw [rA_y (by omega) hu]
      simp only [Option.bind_some]
      rw [if_neg h0]
      rcases in_cases 4096 (by decide) x2 with ⟨p, hp, rfl⟩ | hy
      · rw [isW_y hp, cW_y hp]
        simp only [Option.bind_some, o10, if_false, not_false_eq_true, if_true]
        rw [hst, if_pos hr, wA_y (by omega) hu]
        simp only [Option.bind_some, o10, not_false_eq_true, if_true]
        have hI : Inv U S (qI t 10 u 9 (nI p)) (pA s 45 u (nI p)) qs T B P D := by
          refine ⟨Sim_U H (q := (9, 45)) (by decide) u (nI p), hQ, ?_⟩
          show HJ U S t.2.2.2.1 (f17 (qI t 10 u 9 (nI p))) (f18 (qI t 10 u 9 (nI p))) _ _ _ _ _ _
          rw [f17_n _ _ _ (by decide), f18_n _ _ _ (by decide)]
          exact HJ_pc hJ u (w12_n hp)
        obtain ⟨a1, a2, a3⟩ := Inv_rd (N := N) hU hI hu h1 (fun _ => h5)
        rw [a1, a2]
        exact ⟨1, _, _, _, rfl, rfl, a3⟩
      · rw [isW_n hy, cW_n hy]
        exact ⟨0, t, s, qs, rfl, rfl, h⟩
    · refine ⟨0, t, s, qs, ?_, ?_, h⟩
      · rcases in_cases 4096 (by decide) x2 with ⟨p, hp, rfl⟩ | hy
        · rw [cW_y hp]
          simp only [Option.bind_some, o10, if_false]
          rw [hst, if_neg hr]
          rfl
        · rw [cW_n hy]
          rfl
      · by_cases h0 : s.2.1 42 u = 0
        · rw [if_pos (Or.inl h0)]
          simp only [o10, if_false]
          rw [rA_y (by omega) hu]
          simp only [Option.bind_some]
          rw [if_pos h0]
          rfl
        · have hr3 : ¬ (s.2.1 42 u = 0 ∨ s.2.1 42 u = 6 ∨ s.2.1 42 u = 7) := fun z => z.elim h0 hr
          rw [if_neg hr3]
          rfl
  · rw [g_rests_n hU0 hU h31 hx, usA_n hU0 hU hx]
    exact ⟨0, t, s, qs, rfl, rfl, h⟩
end
