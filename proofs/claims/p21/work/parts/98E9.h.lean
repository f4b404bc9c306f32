/-! LAYER 3, the machine: a step; run -/
section
variable {U S N u k : Nat} {R0 : Rf} {t : CS} {s : RS} {qs : List Nat} {T B : Nat} {P : Nat → Nat}
theorem iw_s : ∃ x, g_isWrong U S N s = some (x, s) := by
  by_cases h6 : s.1 78 >>> ((9 : Int32) &&& 31) = 6
  · by_cases hm : s.1 78 ∈ mon
    · exact ⟨_, nw_y hm rfl⟩
    · exact ⟨_, nw_n hm h6 rfl⟩
  · by_cases h7 : ¬ s.1 78 >>> ((9 : Int32) &&& 31) = 7 ∨ ¬ s.1 78 &&& 257 = 257
    · exact ⟨_, nw_lo rfl h7 h6⟩
    · have a1 : s.1 78 >>> ((9 : Int32) &&& 31) = 7 := Decidable.byContradiction (fun z => h7 (Or.inl z))
      have a2 : s.1 78 &&& 257 = 257 := Decidable.byContradiction (fun z => h7 (Or.inr z))
      unfold g_isWrong g_isWrong_49 g_isWrong_54
      rw [if_neg (not_not_intro a1), if_neg (not_not_intro a2)]
      by_cases b1 : s.1 78 &&& 14 = 2
      · rw [if_pos b1]; exact ⟨_, rfl⟩
      · rw [if_neg b1]
        by_cases b2 : s.1 78 &&& 14 = 8
        · rw [if_neg (not_not_intro b2)]; exact ⟨_, rfl⟩
        · rw [if_pos b2]; exact ⟨_, rfl⟩
theorem mw_s (hU : U < 7) (hu : u < U) : ∃ x s2, g_mustWait U S N (nI u) s = some (x, s2) ∧ s2.1 78 = s.1 78 := by
  unfold g_mustWait g_mustWait_20 g_mustWait_36 g_mustWait_56 g_mustWait_74 g_mustWait_89
  simp only [rA_y (show U < 2 ^ 31 by omega) hu, wA_y (show U < 2 ^ 31 by omega) hu, Option.bind_some]
  repeat' split
  all_goals exact ⟨_, _, rfl, rfl⟩
theorem al_step (hU : U < 7) (hS5 : S < 5) (hN : 100 < N) : StOK U S N := by
  intro t s qs T B P u k hT1 hB hT h hBT hr hs hu hk
  obtain ⟨H, hQ, hJ⟩ := id h
  obtain ⟨hnq, hu1, _⟩ := hJ.2.2.2.2.2.2.1 u hr
  have hnc : t.2.2.2.1 1 0 1 ≠ some u := by
    intro z
    rcases H.2.2.2.2.2.2.1 with ⟨_, y, _⟩ | ⟨_, u2, k2, hu2, hk2, y1, y2, y3, _⟩
    · rw [y] at z; cases z
    · have e : u2 = u := by rw [y1] at z; exact Option.some.inj z
      subst e
      rcases hJ.2.2.2.2.2.2.2 (by decide) u2 k2 y1 y3 with ⟨_, _, d3, _⟩ | ⟨_, d2, _⟩ | ⟨_, d2, _⟩
      · exact d3 hr
      · rw [hs] at d2; cases d2
      · rw [hu1] at d2; exact absurd d2 (by decide)
  have M0 : MS U S u t.2.2.2.1 qs T B P t s := ⟨H, hQ, HJ_r0 hJ, rfl, by rw [hu1]; decide⟩
  obtain ⟨rp1, p, hp, rp2⟩ := ms_rpc M0
  obtain ⟨rw1, i, hi, rw2⟩ := ms_rco M0 k p
  have e66 : s.1 66 = nI T := hJ.2.1.1
  have e7 : t.1 2 0 7 = nI T := (H.2.2.1 (2, 7, 66) (by decide)).trans e66
  have M1 := ms_78 (ms_3 (ms_3 M0 0 (nI T)) 1 (nI p)) (nI i)
  have M2 := ms_pc M1 (w12_and (nI p + 1))
  have hop : nI i >>> ((9 : Int32) &&& 31) = nI (i / 512) := shr_nI (c := 9) (by omega) (by decide)
  have fin : ∀ (C : Option (Int32 × CS)) (G : Option (Unit × RS)), SO U S t.2.2.2.1 qs T B P u C G → ∃ x t1 s1, C = some (x, t1) ∧ ((x = 0 ∧ G = some ((), s1)) ∨ (x = 1 ∧ G = some ((), pI (pA s1 48 u (s1.2.1 48 u + 1)) 75 (s1.1 75 + 1)))) ∧ Sim U S t1 s1 ∧ isQ U t1 s1 qs ∧ HJ U S (up3 t1.2.2.2.1 2 0 8 none) (f17 t1) (f18 t1) s1 qs T (B + 1) P 0 ∧ t1.2.2.2.1 = t.2.2.2.1 := by
    rintro C G ⟨x, t1, s1, a, b, c1, c2, c3, c4⟩
    exact ⟨x, t1, s1, a, b, c1, c2, by rw [c4]; exact c3, c4⟩
  rw [e7, stp_c hp (rp1.trans rp2) (rw1.trans rw2), stp_r hU hS5 hu hk (ms_41 M0 hu hs) hp rp2 rw2]
  refine fin _ _ ?_
  have hst1 : (pI s 78 (nI i)).2.1 42 u = 1 := hu1
  by_cases c6 : i / 512 = 6
  · have h6 : nI i >>> ((9 : Int32) &&& 31) = 6 := by rw [hop, c6]; rfl
    rw [if_pos (by rw [h6]; decide), if_neg (not_not_intro h6)]
    rw [rest_c (g := dev U S N u) (s := pI s 78 (nI i)) (fun s2 e => by
      show rst U S N u (s2.1 78) (nI p) s2 = dev U S N u s2
      rw [e]
      show rst U S N u (nI i) (nI p) s2 = dev U S N u s2
      unfold rst
      rw [if_pos (by rw [h6]; decide), if_neg (not_not_intro h6)]) hU hu iw_s (mw_s hU hu)]
    exact al_dev hU hN hu hs hnq hnc hBT M1 hst1 rfl h6 (rp1.trans rp2) rfl rfl e66
  · have n6 : ¬ nI i >>> ((9 : Int32) &&& 31) = 6 := by
      rw [hop]
      intro z
      exact c6 ((eqI (a := i / 512) (b := 6) (by omega) (by decide)).mp z)
    have hmw := mw_lo (S := S) (N := N) hU hu hst1 (v := nI i) rfl n6
    by_cases lt : i / 512 < 6
    · have n66 : ¬ (6 : Int32) ≤ nI i >>> ((9 : Int32) &&& 31) := by
        rw [hop]
        intro z
        have := (leI (a := 6) (by decide) (by omega)).mp z
        omega
      have n7 : ¬ nI i >>> ((9 : Int32) &&& 31) = 7 := by
        rw [hop]
        intro z
        have := (eqI (a := i / 512) (b := 7) (by omega) (by decide)).mp z
        omega
      obtain ⟨t3, s3, f1, f2, f3⟩ := al_mem (N := N) hU hS5 hu hk hs M2 (v := nI i) (w12_n hi) rfl (p := nI p) (w12_n hp) rfl (nI i >>> ((9 : Int32) &&& 31))
      rw [if_neg n66, rest_ok hU hu (nw_lo (U := U) (S := S) (N := N) (s := pI s 78 (nI i)) (v := nI i) rfl (Or.inl n7) n6) hmw]
      refine so_1 (t1 := t3) (s1 := s3) (N := N) ?_ ?_ hU hu f3
      · unfold sT
        rw [f1, Option.bind_some]
        rfl
      · show rst U S N u (nI i) (nI p) _ = _
        unfold rst
        rw [if_neg n66, f2, Option.bind_some]
    · have e7' : i / 512 = 7 := by omega
      have h7 : nI i >>> ((9 : Int32) &&& 31) = 7 := by rw [hop, e7']; rfl
      have y66 : (6 : Int32) ≤ nI i >>> ((9 : Int32) &&& 31) := by rw [h7]; decide
      have t256 : (nI i &&& 256 = 0) ↔ (i &&& 256 = 0) := tb (c := 256) (d := 0) hi (by decide) (by decide)
      have t1 : (nI i &&& 1 = 0) ↔ (i &&& 1 = 0) := tb (c := 1) (d := 0) hi (by decide) (by decide)
      have t257 : (nI i &&& 257 = 257) ↔ (i &&& 257 = 257) := tb (c := 257) (d := 257) hi (by decide) (by decide)
      have b := b257 i hi
      rw [if_pos y66, if_pos n6]
      by_cases c256 : nI i &&& 256 = 0
      · have n257 : ¬ nI i &&& 257 = 257 := fun z => (b.mp (t257.mp z)).1 (t256.mp c256)
        obtain ⟨t3, s3, f1, f2, f3⟩ := al_op1 (N := N) hU hN hu M2 hi rfl
        rw [if_neg (not_not_intro c256), rest_ok hU hu (nw_lo (U := U) (S := S) (N := N) (s := pI s 78 (nI i)) (v := nI i) rfl (Or.inr n257) n6) hmw]
        refine so_1 (t1 := t3) (s1 := s3) (N := N) ?_ ?_ hU hu f3
        · unfold sT
          rw [f1, Option.bind_some]
          rfl
        · show rst U S N u (nI i) (nI p) _ = _
          unfold rst
          rw [if_pos y66, if_pos n6, if_neg (not_not_intro c256), f2, Option.bind_some]
      · rw [if_pos c256]
        by_cases c1 : nI i &&& 1 = 0
        · have n257 : ¬ nI i &&& 257 = 257 := fun z => (b.mp (t257.mp z)).2 (t1.mp c1)
          obtain ⟨t3, s3, f1, f2, f3⟩ := al_op2 (N := N) hU hu hnq M2 hi rfl
          rw [if_neg (not_not_intro c1), rest_ok hU hu (nw_lo (U := U) (S := S) (N := N) (s := pI s 78 (nI i)) (v := nI i) rfl (Or.inr n257) n6) hmw]
          refine so_1 (t1 := t3) (s1 := s3) (N := N) ?_ ?_ hU hu f3
          · unfold sT
            rw [f1, Option.bind_some]
            rfl
          · show rst U S N u (nI i) (nI p) _ = _
            unfold rst
            rw [if_pos y66, if_pos n6, if_pos c256, if_neg (not_not_intro c1), f2, Option.bind_some]
        · have y257 : nI i &&& 257 = 257 := t257.mpr (b.mpr ⟨fun z => c256 (t256.mpr z), fun z => c1 (t1.mpr z)⟩)
          rw [if_pos c1]
          have wrong : (nI i &&& 14 = 2 ∨ nI i &&& 14 = 8) → SO U S t.2.2.2.1 qs T B P u ((u_X3_extend U S N (some u) (some k) (nI i) (sT t u (nI T) (nI p) ((nI p + 1) &&& 4095))).bind fun q9 => cZ q9.1 q9.2) (rest U S N u ((nI p + 1) &&& 4095) (fun μ => rst U S N u (μ.1 78) (nI p) μ) (pI s 78 (nI i))) := by
            intro hw
            have e1 : g_isWrong U S N (pI s 78 (nI i)) = some (1, pI s 78 (nI i)) := by
              unfold g_isWrong g_isWrong_49 g_isWrong_54
              rw [show (pI s 78 (nI i)).1 78 = nI i from rfl, if_neg (not_not_intro h7), if_neg (not_not_intro y257)]
              rcases hw with hw | hw
              · rw [if_pos hw]; rfl
              · rw [if_neg (by rw [hw]; decide), if_neg (not_not_intro hw)]; rfl
            have e2 : u_X3_extend U S N (some u) (some k) (nI i) (sT t u (nI T) (nI p) ((nI p + 1) &&& 4095)) = some (0, qI (qI (qI t 3 0 0 (nI T)) 3 0 1 (nI p)) 10 u 8 7) := by
              have e3 : u_X3_extend_19 U S N (some u) (sT t u (nI T) (nI p) ((nI p + 1) &&& 4095)) = some (0, qI (qI (qI t 3 0 0 (nI T)) 3 0 1 (nI p)) 10 u 8 7) := by
                unfold u_X3_extend_19 sT
                rw [wrong_c (t := qI (qI t 3 0 0 (nI T)) 3 0 1 (nI p)) (p := nI p) (rp1.trans rp2) rfl, Option.bind_some]
                rfl
              unfold u_X3_extend
              rcases hw with hw | hw
              · rw [if_pos hw]; exact e3
              · rw [if_neg (by rw [hw]; decide), if_neg (not_not_intro hw)]; exact e3
            rw [rest_wr hU hu e1, e2, Option.bind_some]
            exact so_0 rfl rfl (ms_st M1 hnq (by decide))
          by_cases n2 : nI i &&& 14 = 2
          · exact wrong (Or.inl n2)
          · by_cases n8 : nI i &&& 14 = 8
            · exact wrong (Or.inr n8)
            · obtain ⟨t3, s3, f1, f2, f3⟩ := al_op3 (N := N) hU hS5 hN hu hk hs M2 hi rfl n2 n8
              have e1 : g_isWrong U S N (pI s 78 (nI i)) = some (0, pI s 78 (nI i)) := by
                unfold g_isWrong g_isWrong_54
                rw [show (pI s 78 (nI i)).1 78 = nI i from rfl, if_neg (not_not_intro h7), if_neg (not_not_intro y257), if_neg n2, if_pos n8]
                rfl
              rw [rest_ok hU hu e1 hmw]
              refine so_1 (t1 := t3) (s1 := s3) (N := N) ?_ ?_ hU hu f3
              · unfold sT
                rw [f1, Option.bind_some]
                rfl
              · show rst U S N u (nI i) (nI p) _ = _
                unfold rst
                rw [if_pos y66, if_pos n6, if_pos c256, if_pos c1, f2, Option.bind_some]
/-- what stands between calls: T ticks are gone -/
def IV (U S : Nat) (t : CS) (s : RS) (T : Nat) : Prop := ∃ qs, Inv U S t s qs T (T + 1) (fun _ => T) 0
theorem al_tick (hU : U < 7) (hS5 : S < 5) (hN : 100 < N) (hT : T + 2 < 2 ^ 30) (h : IV U S t s T) : ∃ t2 s2, u_X2_tick U S N t = some ((), t2) ∧ g_tick U S N s = some ((), s2) ∧ IV U S t2 s2 (T + 1) := by
  obtain ⟨qs, h⟩ := h
  obtain ⟨t1, s1, qs1, a1, a2, a3⟩ := al_tk (N := N) hU hS5 (by omega) hN (by omega) h
  obtain ⟨t2, s2, qs2, b1, b2, b3⟩ := al_pc (N := N) hU hS5 hN (al_step hU hS5 hN) (by omega) a3 rfl
  rw [a1, a2]
  exact ⟨t2, s2, b1, b2, qs2, b3⟩
theorem al_run (hU : U < 7) (hS5 : S < 5) (hN : 20001 < N) (hT : T + 20002 < 2 ^ 30) (h : IV U S t s T) (x1 : Int32) : ∃ x t2 s2 T2, u_X11_run U S N x1 t = some (x, t2) ∧ g_run U S N x1 s = some (x, s2) ∧ T2 ≤ T + 20000 ∧ IV U S t2 s2 T2 := by
  have loop : ∀ (n : Nat), n ≤ 20000 → ∀ (m i : Nat) (t : CS) (s : RS) (T : Nat) (d : Int32), T + (n - i) + 2 < 2 ^ 30 → IV U S t s T → n < i + m → i ≤ n → ∃ x t2 s2, ul_X11_run_24 U S N m (nI n) d (nI i) t = some (x, t2) ∧ l_run_20 U S N m (nI n) d (nI i) s = some (x, s2) ∧ IV U S t2 s2 (T + (n - i)) := by
    intro n hn m
    induction m with
    | zero => intro i t s T d _ _ h1 h2; omega
    | succ m ih =>
      intro i t s T d hT h h1 h2
      show ∃ x t2 s2, uh_X11_run_24 U S N (ul_X11_run_24 U S N m) (nI n) d (nI i) t = _ ∧ h_run_20 U S N (l_run_20 U S N m) (nI n) d (nI i) s = _ ∧ _
      unfold uh_X11_run_24 h_run_20
      by_cases hi : n ≤ i
      · have e11 : t.1 2 0 11 = s.1 75 := by
          obtain ⟨qs, h⟩ := h
          exact h.1.2.2.1 (2, 11, 75) (by decide)
        rw [if_pos ((leI (by omega) (by omega)).mpr hi), if_pos ((leI (by omega) (by omega)).mpr hi), e11]
        refine ⟨_, _, _, rfl, rfl, ?_⟩
        rw [show T + (n - i) = T by omega]
        exact h
      · obtain ⟨t1, s1, a1, a2, a3⟩ := al_tick (N := N) hU hS5 (by omega) (by omega) h
        rw [if_neg (fun z => hi ((leI (by omega) (by omega)).mp z)), if_neg (fun z => hi ((leI (by omega) (by omega)).mp z)), a1, a2, Option.bind_some, Option.bind_some, nI_1]
        have := ih (i + 1) t1 s1 (T + 1) d (by omega) a3 (by omega) (by omega)
        rw [show T + 1 + (n - (i + 1)) = T + (n - i) by omega] at this
        exact this
  have e11 : t.1 2 0 11 = s.1 75 := by
    obtain ⟨qs, h⟩ := h
    exact h.1.2.2.1 (2, 11, 75) (by decide)
  unfold u_X11_run u_X11_run_12 g_run
  rw [g_in_eq, Option.bind_some, e11]
  by_cases c1 : x1 < 1
  · rw [if_pos c1, if_pos c1]
    exact ⟨-1, t, s, T, rfl, rfl, by omega, h⟩
  · rw [if_neg c1, if_neg c1]
    by_cases c2 : x1 ≤ 20000
    · have c3 : ¬ (20000 : Int32) < x1 := by
        rw [Int32.lt_iff_toInt_lt]
        rw [Int32.le_iff_toInt_le] at c2
        omega
      have c4 : ¬ x1 < 0 := by
        rw [Int32.lt_iff_toInt_lt] at c1 ⊢
        have e1 : (1 : Int32).toInt = 1 := rfl
        have e0 : (0 : Int32).toInt = 0 := rfl
        omega
      obtain ⟨n, hn, rfl⟩ := nI_of c4
      have hle : n ≤ 20000 := by
        rw [Int32.le_iff_toInt_le, nI_toInt hn] at c2
        have e1 : (20000 : Int32).toInt = 20000 := rfl
        omega
      rw [if_pos c2, if_neg c3, if_pos (show ¬ (1 : Int32) = 0 by decide)]
      obtain ⟨x, t2, s2, f1, f2, f3⟩ := loop n hle N 0 t s T (s.1 75) (by omega) h (by omega) (by omega)
      exact ⟨x, t2, s2, T + (n - 0), f1, f2, by omega, f3⟩
    · have c3 : (20000 : Int32) < x1 := by
        rw [Int32.lt_iff_toInt_lt]
        rw [Int32.le_iff_toInt_le] at c2
        omega
      rw [if_neg c2, if_pos c3, if_neg (show ¬ ¬ (0 : Int32) = 0 from not_not_intro rfl)]
      exact ⟨-1, t, s, T, rfl, rfl, by omega, h⟩
end
