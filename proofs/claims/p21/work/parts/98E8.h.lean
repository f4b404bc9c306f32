/-! LAYER 3, the machine: a step -/
section
variable {U S N u k : Nat} {R0 : Rf} {t : CS} {s : RS} {qs : List Nat} {T B : Nat} {P : Nat → Nat}
theorem al_dev (hU : U < 7) (hN : 100 < N) (hu : u < U) (ho : R0 10 u 19 = some k) (hq : u ∉ qs) (hnc : R0 1 0 1 ≠ some u) (hBT : B = T) (h : MS U S u R0 qs T B P t s) (h1 : s.2.1 42 u = 1) {v : Int32} (h78 : s.1 78 = v) (h6 : v >>> ((9 : Int32) &&& 31) = 6) {p : Int32} (hp : t.1 10 u 9 = p) (h31 : t.1 3 0 1 = p) (h30 : t.1 3 0 0 = nI T) (h66 : s.1 66 = nI T) : SO U S R0 qs T B P u (cal U S N u v (qI t 10 u 9 ((p + 1) &&& 4095))) (rest U S N u ((p + 1) &&& 4095) (dev U S N u) s) := by
  have h2 := ms_pc h (w12_and (p + 1))
  have g30 : (qI t 10 u 9 ((p + 1) &&& 4095)).1 3 0 0 = (pA s 45 u ((p + 1) &&& 4095)).1 66 := h30.trans h66.symm
  have g78 : (pA s 45 u ((p + 1) &&& 4095)).1 78 = v := h78
  have ok : v ∈ mon → (¬ v = 3100 ∧ ¬ v = 3102 ∧ ¬ v = 3108 ∧ ¬ v = 3110) → (∃ t2 s2, u_X3_callMonitor U S N (some u) v (qI t 10 u 9 ((p + 1) &&& 4095)) = some (1, t2) ∧ g_device U S N (nI u) (pA s 45 u ((p + 1) &&& 4095)) = some (1, s2) ∧ MS U S u R0 qs T B P t2 s2) → SO U S R0 qs T B P u (cal U S N u v (qI t 10 u 9 ((p + 1) &&& 4095))) (rest U S N u ((p + 1) &&& 4095) (dev U S N u) s) := by
    rintro hm ⟨a1, a2, a3, a4⟩ ⟨t2, s2, e1, e2, e3⟩
    rw [rest_ok hU hu (nw_y hm h78) (mw_0 hU hu h1 h78 a1 a2 a3 a4)]
    exact so_1 (cal_1 e1) (dev_1 e2) hU hu e3
  by_cases c1 : v = 3097
  · subst c1
    exact ok (by decide) (by decide) (d_3097 hU hu h2 g78)
  by_cases c2 : v = 3098
  · subst c2
    exact ok (by decide) (by decide) (d_3098 hU hN hu h2 g78)
  by_cases c3 : v = 3100 ∨ v = 3102
  · have hm : v ∈ mon := by rcases c3 with rfl | rfl <;> decide
    obtain ⟨F, M, hF, hM, e1, e2, e3, e4⟩ := (SmG_q h.1 u hu).1
    by_cases h0 : M = 0
    · subst h0
      have hw : g_mustWait U S N (nI u) s = some (1, pA s 42 u 2) := by
        unfold g_mustWait g_mustWait_20 g_mustWait_36 g_mustWait_74 g_mustWait_89
        rw [h78, rA_y (by omega) hu, e3, Option.bind_some, if_neg (show ¬ ¬ nI 0 = 0 from not_not_intro rfl), wA_y (by omega) hu, Option.bind_some, show (pA s 42 u 2).1 78 = v from h78, rA_y (by omega) hu, show (pA s 42 u 2).2.1 42 u = 2 from upd_y _ _ _]
        rcases c3 with rfl | rfl <;> rfl
      rw [rest_wt (nw_y hm h78) hw]
      have ec : u_X3_callMonitor U S N (some u) v (qI t 10 u 9 ((p + 1) &&& 4095)) = some (0, qI t 10 u 8 2) := by
        have e0 : ∀ x : Int32, u_X3_callMonitor_205 U S N (some u) x (qI t 10 u 9 ((p + 1) &&& 4095)) = some (0, qI t 10 u 8 2) := by
          intro x
          unfold u_X3_callMonitor_205 u_X3_readKey
          rw [Option.bind_some, empty_y (t := qI t 10 u 9 ((p + 1) &&& 4095)) e2 (by decide), if_pos rfl, Option.bind_some, if_neg (show ¬ (1 : Int32) = 0 by decide), wait_c hp h31, Option.bind_some]
          rfl
        rcases c3 with rfl | rfl
        · exact e0 0
        · exact e0 1
      exact so_0 (cal_0 ec) rfl (ms_st h hq (by decide))
    · obtain ⟨M, rfl⟩ : ∃ m, M = m + 1 := ⟨M - 1, by omega⟩
      have hw : g_mustWait U S N (nI u) s = some (0, s) := by
        unfold g_mustWait g_mustWait_20 g_mustWait_36 g_mustWait_74 g_mustWait_89
        rw [h78, rA_y (by omega) hu, e3, Option.bind_some, if_pos (show ¬ nI (M + 1) = (0 : Int32) from fun z => by have := (eqI (a := M + 1) (b := 0) (by omega) (by decide)).mp z; omega), rA_y (by omega) hu, h1]
        rcases c3 with rfl | rfl <;> rfl
      rw [rest_ok hU hu (nw_y hm h78) hw]
      obtain ⟨t2, s2, f1, f2, f3⟩ := d_3100 (N := N) hU hN hu h2 c3 g78 hF (by omega) e1 e2 e3 e4
      exact so_1 (cal_1 f1) (dev_1 f2) hU hu f3
  by_cases c5 : v = 3105
  · subst c5
    exact ok (by decide) (by decide) (d_skip hU hu h2 g78)
  by_cases c6 : v ∈ ([3106, 3201, 3202, 3203, 3212, 3220, 3228] : List Int32)
  · have hm : v ∈ mon ∧ (¬ v = 3100 ∧ ¬ v = 3102 ∧ ¬ v = 3108 ∧ ¬ v = 3110) := by
      have c6' := c6
      simp only [List.mem_cons, List.not_mem_nil, or_false] at c6'
      rcases c6' with rfl | rfl | rfl | rfl | rfl | rfl | rfl <;> decide
    exact ok hm.1 hm.2 (d_nop h2 c6 g78)
  by_cases c7 : v = 3108 ∨ v = 3110
  · have hm : v ∈ mon := by rcases c7 with rfl | rfl <;> decide
    obtain ⟨F, M, hF, hM, e1, e2, e3, e4⟩ := (SmG_q h.1 u hu).2
    by_cases h0 : M = 16
    · subst h0
      have hw : g_mustWait U S N (nI u) s = some (1, pA s 42 u 3) := by
        unfold g_mustWait g_mustWait_36 g_mustWait_56 g_mustWait_74 g_mustWait_89
        rw [h78, rA_y (by omega) hu, e3, Option.bind_some, if_neg (show ¬ ¬ nI 16 = (16 : Int32) from not_not_intro rfl), wA_y (by omega) hu, Option.bind_some, rA_y (by omega) hu, show (pA s 42 u 3).2.1 42 u = 3 from upd_y _ _ _]
        rcases c7 with rfl | rfl <;> rfl
      rw [rest_wt (nw_y hm h78) hw]
      have ec : u_X3_callMonitor U S N (some u) v (qI t 10 u 9 ((p + 1) &&& 4095)) = some (0, qI t 10 u 8 3) := by
        have e0 : u_X3_callMonitor_216 U S N (some u) (qI t 10 u 9 ((p + 1) &&& 4095)) = some (0, qI t 10 u 8 3) := by
          unfold u_X3_callMonitor_216 u_X3_sendLetter
          rw [Option.bind_some, full_y (t := qI t 10 u 9 ((p + 1) &&& 4095)) e2 (by decide), if_pos rfl, Option.bind_some, if_neg (show ¬ (1 : Int32) = 0 by decide), wait_c hp h31, Option.bind_some]
          rfl
        rcases c7 with rfl | rfl
        · exact e0
        · exact e0
      exact so_0 (cal_0 ec) rfl (ms_st h hq (by decide))
    · have hw : g_mustWait U S N (nI u) s = some (0, s) := by
        unfold g_mustWait g_mustWait_36 g_mustWait_56 g_mustWait_74 g_mustWait_89
        rw [h78, rA_y (by omega) hu, e3, Option.bind_some, if_pos (show ¬ nI M = (16 : Int32) from fun z => h0 ((eqI (a := M) (b := 16) (by omega) (by decide)).mp z)), rA_y (by omega) hu, h1]
        rcases c7 with rfl | rfl <;> rfl
      rw [rest_ok hU hu (nw_y hm h78) hw]
      obtain ⟨t2, s2, f1, f2, f3⟩ := d_let (N := N) hU hu h2 c7 g78 hF (by omega) e1 e2 e3 e4
      exact so_1 (cal_1 f1) (dev_1 f2) hU hu f3
  by_cases c8 : v = 3343
  · subst c8
    exact ok (by decide) (by decide) (d_who hU hu h2 g78)
  by_cases c9 : v = 3344
  · subst c9
    exact ok (by decide) (by decide) (d_slp hU hu hq h2 g78 g30)
  by_cases c10 : v = 3360 ∨ v = 3361
  · have hm : v ∈ mon ∧ (¬ v = 3100 ∧ ¬ v = 3102 ∧ ¬ v = 3108 ∧ ¬ v = 3110) := by rcases c10 with rfl | rfl <;> decide
    obtain ⟨t2, s2, f1, f2, f3⟩ := d_blk (N := N) hU hu hBT hq ho hnc h2 c10 g78 h30
    rw [rest_ok hU hu (nw_y hm.1 h78) (mw_0 hU hu h1 h78 hm.2.1 hm.2.2.1 hm.2.2.2.1 hm.2.2.2.2)]
    refine ⟨0, t2, s2, cal_0 f1, Or.inl ⟨rfl, ?_⟩, f3⟩
    unfold dev
    rw [f2, Option.bind_some, s139_0]
  · have hm : v ∉ mon := by
      intro z
      simp only [mon, List.mem_cons, List.not_mem_nil, or_false] at z
      simp only [List.mem_cons, List.not_mem_nil, or_false] at c6
      rcases z with z | z | z | z | z | z | z | z | z | z | z | z | z | z | z | z | z | z <;> simp [z] at *
    have hm2 := hm
    simp only [mon, List.mem_cons, List.not_mem_nil, or_false, not_or] at hm2
    obtain ⟨a1, a2, a3, a4, a5, a6, a7, a8, a9, a10, a11, a12, a13, a14, a15, a16, a17, a18⟩ := hm2
    rw [rest_wr hU hu (nw_n hm h6 h78)]
    have ec : u_X3_callMonitor U S N (some u) v (qI t 10 u 9 ((p + 1) &&& 4095)) = some (0, qI t 10 u 8 7) := by
      unfold u_X3_callMonitor
      rw [if_neg a1, if_neg a2, if_neg a3, if_neg a4, if_neg a5, if_neg a6, if_neg a7, if_neg a8, if_neg a9, if_neg a10, if_neg a11, if_neg a12, if_neg a13, if_neg a14, if_neg a15, if_neg a16, if_neg a17, if_neg a18, wrong_c hp h31, Option.bind_some]
      rfl
    exact so_0 (cal_0 ec) rfl (ms_st h hq (by decide))
def sT (t : CS) (u : Nat) (x y z : Int32) : CS := qI (qI (qI t 3 0 0 x) 3 0 1 y) 10 u 9 z
theorem stp_c {p : Nat} (hp : p < 4096) (hpc : t.1 10 u 9 = nI p) {v : Int32} (hv : t.2.1 8 k 1 p = v) (x : Int32) : u_X3_step U S N (some u) (some k) x t = if (6 : Int32) ≤ (v >>> ((9 : Int32) &&& 31)) then if ¬ (v >>> ((9 : Int32) &&& 31)) = (6 : Int32) then if ¬ (v &&& 256) = 0 then if ¬ (v &&& 1) = 0 then (u_X3_extend U S N (some u) (some k) v (sT t u x (nI p) ((nI p + 1) &&& 4095))).bind fun q9 => cZ q9.1 q9.2 else (u_X3_skipOrStop U S N (some u) v (sT t u x (nI p) ((nI p + 1) &&& 4095))).bind fun q11 => cZ 1 q11.2 else (u_X3_operate U S N (some u) v (sT t u x (nI p) ((nI p + 1) &&& 4095))).bind fun q12 => cZ 1 q12.2 else cal U S N u v (sT t u x (nI p) ((nI p + 1) &&& 4095)) else (u_X3_refer U S N (some u) (some k) (v >>> ((9 : Int32) &&& 31)) v (sT t u x (nI p) ((nI p + 1) &&& 4095))).bind fun q15 => cZ 1 q15.2 := by
  unfold u_X3_step sT cal
  rw [Option.bind_some, Option.bind_some, Option.bind_some, Option.bind_some, show (qI t 3 0 0 x).1 10 u 9 = nI p from hpc, and4095 hp, show (qI (qI t 3 0 0 x) 3 0 1 (nI p)).1 3 0 1 = nI p from rfl, rH_y (by decide) hp, show (qI (qI t 3 0 0 x) 3 0 1 (nI p)).2.1 8 k 1 p = v from hv, Option.bind_some, Option.bind_some]
def rst (U S N u : Nat) (v pb : Int32) (s : RS) : Option (Unit × RS) := if (6 : Int32) ≤ (v >>> ((9 : Int32) &&& 31)) then if ¬ (v >>> ((9 : Int32) &&& 31)) = (6 : Int32) then if ¬ (v &&& 256) = 0 then if ¬ (v &&& 1) = 0 then (g_third U S N (nI u) s).bind fun q15 => g_step_139 U S N (nI u) 1 q15.2 else (g_second U S N (nI u) s).bind fun q17 => g_step_139 U S N (nI u) 1 q17.2 else (g_first U S N (nI u) s).bind fun q19 => g_step_139 U S N (nI u) 1 q19.2 else dev U S N u s else (g_memory_ U S N (nI u) (v >>> ((9 : Int32) &&& 31)) pb s).bind fun q23 => g_step_139 U S N (nI u) 1 q23.2
theorem stp_r (hU : U < 7) (hS5 : S < 5) (hu : u < U) (hk : k < S) (h41 : s.2.1 41 u = nI k) {p : Nat} (hp : p < 4096) (hpc : s.2.1 45 u = nI p) {v : Int32} (hv : s.2.2 35 k p = v) : g_step U S N (nI u) s = rest U S N u ((nI p + 1) &&& 4095) (fun μ => rst U S N u (μ.1 78) (nI p) μ) (pI s 78 v) := by
  unfold g_step rest rst dev
  rw [rA_y (by omega) hu, hpc, Option.bind_some, ld hU hS5 hu hk h41 hp (and4095 hp), hv, Option.bind_some, Option.bind_some]
theorem rest_c {pc2 : Int32} {f g : RS → Option (Unit × RS)} (h : ∀ s2, s2.1 78 = s.1 78 → f s2 = g s2) (hU : U < 7) (hu : u < U) (hw : ∃ x, g_isWrong U S N s = some (x, s)) (hm : ∃ x s2, g_mustWait U S N (nI u) s = some (x, s2) ∧ s2.1 78 = s.1 78) : rest U S N u pc2 f s = rest U S N u pc2 g s := by
  obtain ⟨x, hw⟩ := hw
  obtain ⟨y, s2, hm, h2⟩ := hm
  unfold rest
  rw [hw, Option.bind_some, Option.bind_some, hm, Option.bind_some, Option.bind_some, wA_y (by omega) hu, Option.bind_some, Option.bind_some, h (pA s2 45 u pc2) h2]
theorem nw_lo {v : Int32} (h78 : s.1 78 = v) (n7 : ¬ v >>> ((9 : Int32) &&& 31) = 7 ∨ ¬ v &&& 257 = 257) (n6 : ¬ v >>> ((9 : Int32) &&& 31) = 6) : g_isWrong U S N s = some (0, s) := by
  unfold g_isWrong g_isWrong_55
  rw [h78, if_neg n6]
  by_cases c7 : v >>> ((9 : Int32) &&& 31) = 7
  · rw [if_neg (not_not_intro c7)]
    rcases n7 with n7 | n7
    · exact absurd c7 n7
    · rw [if_pos n7]; rfl
  · rw [if_pos c7]; rfl
theorem mw_lo (hU : U < 7) (hu : u < U) (h1 : s.2.1 42 u = 1) {v : Int32} (h78 : s.1 78 = v) (n6 : ¬ v >>> ((9 : Int32) &&& 31) = 6) : g_mustWait U S N (nI u) s = some (0, s) := by
  refine mw_0 hU hu h1 h78 ?_ ?_ ?_ ?_ <;> (intro z; rw [z] at n6; exact n6 (by decide))
end
