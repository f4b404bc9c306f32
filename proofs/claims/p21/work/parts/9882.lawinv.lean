/-! LAYER 2, the law by an invariant over the typed states -/
def clv (L : Nat) (xs : Nat → Int32) (j : Nat) : Int32 := if L ≤ j then 0 else xs j
theorem cell_v {g : CG} {L j N : Nat} {xs : Nat → Int32} (hg : g.1.2.2 = (L, xs)) (hL : L < 4000) (hj : j < 4000) (m : Mem) : f_L_cell N g 2 (nI j) m = some (clv L xs j, m) := by
  unfold f_L_cell clv f_L_cell_13
  by_cases h : L ≤ j
  · rw [if_pos h]
    refine if_y ?_ rfl
    rw [hg]
    exact nI_le h (by omega)
  · rw [if_neg h]
    refine if_n ?_ ?_
    · rw [hg]
      exact nI_ge (by omega) (by omega)
    · refine bnd (xS_at hg hL (by omega)) rfl
theorem sub6 {L : Nat} (h : L < 4000) : (nI L - nI 6).toInt = (L : Int) - 6 := by
  by_cases h6 : 6 ≤ L
  · rw [show nI L = nI (L - 6) + nI 6 by rw [nI_add]; congr 1; omega, Int32.add_sub_cancel, nI_toInt (by omega)]
    omega
  · have : L = 0 ∨ L = 1 ∨ L = 2 ∨ L = 3 ∨ L = 4 ∨ L = 5 := by omega
    rcases this with rfl | rfl | rfl | rfl | rfl | rfl <;> rfl
theorem l_law {g : CG} {L N : Nat} {xs : Nat → Int32} (hg : g.1.2.2 = (L, xs)) (hL : L < 4000) {m : Mem} {n0 a r U S K : Nat} (W : ZW m n0 a r U S) (hK : L < 10 + 6 * K) (inv : Nat → CS → RS → Prop) (hs : ∀ k, k < K → ∀ op x1 x2 x3 x4 x5 t s, inv k t s → ∃ t2 s2, stp U S N (op &&& 31) x1 x2 x3 x4 x5 t s = some (t2, s2) ∧ inv (k + 1) t2 s2) : ∀ (n k : Nat) (t : CS) (s : RS), L < 6 * k + 6 * n + 10 → k < 1000 → inv k t s → ∃ μ9, L_L_law_58 N g U S (n + 1) 2 (some a) (some r) (nI (4 + 6 * k)) (ZM m n0 a r U S t s) = some ((), μ9) := by
  intro n
  induction n with
  | zero =>
    intro k t s hn hk hi
    refine ⟨ZM m n0 a r U S t s, ?_⟩
    show H_L_law_58 N g U S (L_L_law_58 N g U S 0) 2 (some a) (some r) (nI (4 + 6 * k)) (ZM m n0 a r U S t s) = _
    unfold H_L_law_58
    refine if_y ?_ rfl
    rw [hg]
    show (nI L - nI 6) < nI (4 + 6 * k)
    rw [Int32.lt_iff_toInt_lt, sub6 hL, nI_toInt (by omega)]
    omega
  | succ n ih =>
    intro k t s hn hk hi
    show ∃ μ9, H_L_law_58 N g U S (L_L_law_58 N g U S (n + 1)) 2 (some a) (some r) (nI (4 + 6 * k)) (ZM m n0 a r U S t s) = some ((), μ9)
    by_cases h : 4 + 6 * k + 6 ≤ L
    · obtain ⟨t2, s2, h1, h2⟩ := hs k (by omega) (xs (4 + 6 * k)) (xs (4 + 6 * k + 1)) (xs (4 + 6 * k + 2)) (xs (4 + 6 * k + 3)) (xs (4 + 6 * k + 4)) (xs (4 + 6 * k + 5)) t s hi
      rw [h_law hg hL h W h1]
      exact ih (k + 1) t2 s2 (by omega) (by omega) h2
    · refine ⟨ZM m n0 a r U S t s, ?_⟩
      unfold H_L_law_58
      refine if_y ?_ rfl
      rw [hg]
      show (nI L - nI 6) < nI (4 + 6 * k)
      rw [Int32.lt_iff_toInt_lt, sub6 hL, nI_toInt (by omega)]
      omega
/-- the law, by an invariant over both states: K calls at most -/
theorem law_inv {g : CG} {L N K : Nat} {xs : Nat → Int32} (hg : g.1.2.2 = (L, xs)) (hL : L < 4000) (hN : 5000 < N) (hK : L < 10 + 6 * K) (inv : Nat → Nat → Nat → CS → RS → Prop) (h0 : ∀ U S a1 a2 a3 a4, 1 ≤ U → U ≤ 6 → 1 ≤ S → S ≤ 4 → nr a1 6 = nI U → nr a2 4 = nI S → inv U S 0 (cs0 (nr a3 64) (nr a4 64)) (rs0 U S a1 a2 a3 a4)) (hs : ∀ U S, 1 ≤ U → U ≤ 6 → 1 ≤ S → S ≤ 4 → ∀ k, k < K → ∀ op x1 x2 x3 x4 x5 t s, inv U S k t s → ∃ t2 s2, stp U S N (op &&& 31) x1 x2 x3 x4 x5 t s = some (t2, s2) ∧ inv U S (k + 1) t2 s2) : ∃ (U S : Nat) (μ9 : Mem), (U ≤ 6 ∧ S ≤ 4) ∧ f_L_law N g U S 2 μe = some ((), μ9) := by
  obtain ⟨U, ⟨hU1, hU2⟩, hU⟩ := near_ex (clv L xs 0) (m := 6) (by decide) (by decide)
  obtain ⟨S, ⟨hS1, hS2⟩, hS⟩ := near_ex (clv L xs 1) (m := 4) (by decide) (by decide)
  have hU' : nr (clv L xs 0) 6 = nI U := (nr_mm _ 6 (by decide)).symm.trans hU
  have hS' : nr (clv L xs 1) 4 = nI S := (nr_mm _ 4 (by decide)).symm.trans hS
  have c0 : ∀ m, f_L_cell N g 2 0 m = some (clv L xs 0, m) := fun m => cell_v (j := 0) hg hL (by decide) m
  have c1 : ∀ m, f_L_cell N g 2 1 m = some (clv L xs 1, m) := fun m => cell_v (j := 1) hg hL (by decide) m
  have c2 : ∀ m, f_L_cell N g 2 2 m = some (clv L xs 2, m) := fun m => cell_v (j := 2) hg hL (by decide) m
  have c3 : ∀ m, f_L_cell N g 2 3 m = some (clv L xs 3, m) := fun m => cell_v (j := 3) hg hL (by decide) m
  have ha : (0 : Nat) < (madd μe (.inr (11, df_X11))).1 := by unfold madd μe; dsimp only; omega
  have hc : (madd μe (.inr (11, df_X11))).2 0 = .inr (11, df_X11) := by unfold madd μe va_up; dsimp only; rw [if_pos rfl]
  have k1 := k_X11 (N := N) (U := U) (S := S) (by omega) ⟨hU1, hU2⟩ ⟨hS1, hS2⟩ ha hc (a1 := clv L xs 0) (a2 := clv L xs 1) (a3 := clv L xs 2) (a4 := clv L xs 3) hU hS
  rw [nr_mm _ 64 (by decide), nr_mm _ 64 (by decide)] at k1
  generalize hm1 : ext (madd μe (.inr (11, df_X11))) 0 (cE (madd μe (.inr (11, df_X11))).1) (cC (madd μe (.inr (11, df_X11))).1 U S (nr (clv L xs 2) 64) (nr (clv L xs 3) 64)) = m1 at k1
  have hr : m1.1 < (madd m1 (.inr (12, df_X12))).1 := by unfold madd; dsimp only; omega
  have hrc : (madd m1 (.inr (12, df_X12))).2 m1.1 = .inr (12, df_X12) := by unfold madd va_up; dsimp only; rw [if_pos rfl]
  have k2 := k_X12 (N := N) (U := U) (S := S) (by omega) (by omega) (by omega) hr hrc (a1 := clv L xs 0) (a2 := clv L xs 1) (a3 := clv L xs 2) (a4 := clv L xs 3) hU' hS'
  have hz := fresh_Z (U := U) (S := S) (by omega) (by omega) ha (nr (clv L xs 2) 64) (nr (clv L xs 3) 64) (.inr (12, df_X12))
  rw [hm1] at hz
  have A : ∀ i K, (keys U S)[i]? = some K → adr ((madd μe (.inr (11, df_X11))).1, m1) 0 U S K = some ((madd μe (.inr (11, df_X11))).1 + i) := fun i K h => ad_i (by omega) (by omega) h
  have hlen : m1.1 = (madd μe (.inr (11, df_X11))).1 + (keys U S).length := by
    have := congrArg List.length (fr_all (q := nr (clv L xs 2) 64) (sp := nr (clv L xs 3) 64) A)
    rw [List.length_map] at this
    rw [← hm1, ext_n, this]
  have W : ZW (madd m1 (.inr (12, df_X12))) (madd μe (.inr (11, df_X11))).1 0 m1.1 U S := by
    refine ⟨⟨ha, by omega, by omega, ?_⟩, hr, by omega⟩
    show _ + _ ≤ (madd m1 (.inr (12, df_X12))).1
    omega
  obtain ⟨μ9, h9⟩ := l_law (N := N) (K := K) hg hL W hK (inv U S) (hs U S hU1 hU2 hS1 hS2) (N - 1) 0 _ _ (by omega) (by decide) (h0 U S (clv L xs 0) (clv L xs 1) (clv L xs 2) (clv L xs 3) hU1 hU2 hS1 hS2 hU' hS')
  refine ⟨U, S, μ9, ⟨hU2, hS2⟩, ?_⟩
  unfold f_L_law
  refine bnd rfl ?_
  refine bnd (c0 _) ?_
  refine bnd (c1 _) ?_
  refine bnd (c2 _) ?_
  refine bnd (c3 _) ?_
  refine bnd k1 ?_
  refine bnd rfl ?_
  refine bnd (c0 _) ?_
  refine bnd (c1 _) ?_
  refine bnd (c2 _) ?_
  refine bnd (c3 _) ?_
  refine bnd k2 ?_
  rw [show N - 1 + 1 = N by omega] at h9
  unfold ZM at h9
  rw [hz] at h9
  exact h9
