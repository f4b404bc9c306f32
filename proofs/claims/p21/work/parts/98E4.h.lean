/-! LAYER 3, the machine: group 3 (with MQ) -/
theorem pA_pA (s : RS) (k i : Nat) (x y : Int32) : pA (pA s k i x) k i y = pA s k i y := by
  unfold pA
  dsimp only
  rw [up1_s, up1_up1]
  congr 3
  funext j
  unfold upd
  by_cases h : j = i
  · rw [if_pos h, if_pos h]
  · rw [if_neg h, if_neg h, if_neg h]
theorem pA_id (s : RS) {k i : Nat} {x : Int32} (h : s.2.1 k i = x) : pA s k i x = s := by
  unfold pA
  have : upd (s.2.1 k) i x = s.2.1 k := by
    funext j
    unfold upd
    by_cases e : j = i
    · rw [if_pos e, e, h]
    · rw [if_neg e]
  rw [this, up1_id]
theorem or23 {l a : Nat} (h : a < 2 ^ 23) : (a ||| l * 2 ^ 23) = 2 ^ 23 * l + a := by
  have := Nat.shiftLeft_add_eq_or_of_lt (i := 23) h l
  rw [Nat.shiftLeft_eq] at this
  rw [Nat.or_comm, ← this]
  omega
theorem dm {q r : Nat} (hq : q < 4096) : (r * 4096 + q) / 4096 = r ∧ (r * 4096 + q) % 4096 = q := by omega
theorem and24 {m : Nat} (h : m < 2 ^ 32) : nI m &&& 16777215 = nI (m % 16777216) := by
  have := and_md (nI m) (m := 24) (by decide) 16777215 rfl
  rw [nI_bv h] at this
  exact this
section
variable {U S N u k : Nat} {R0 : Rf} {t : CS} {s : RS} {qs : List Nat} {T B : Nat} {P : Nat → Nat}
theorem setL {m : Nat} (hm : m < 2 ^ 24) : u_X3_setLong U S N (some u) (nI m) t = some ((), qI (qI t 10 u 10 (nI (m / 4096))) 10 u 12 (nI (m % 4096))) := by
  unfold u_X3_setLong
  simp only [Option.bind_some]
  rw [show nI m >>> ((12 : Int32) &&& 31) = nI (m / 2 ^ 12) from shr_nI (c := 12) (by omega) (by decide), and12 (by omega), and12 (by omega), Nat.mod_eq_of_lt (show m / 2 ^ 12 < 4096 by omega)]
theorem t324 (hU : U < 7) (hu : u < U) {m : Nat} (hm : m < 2 ^ 24) : g_third_324 U S N (nI u) (nI m) s = some ((), pA (pA s 43 u (nI (m / 4096))) 44 u (nI (m % 4096))) := by
  unfold g_third_324
  rw [wA_y (by omega) hu, show nI m >>> ((12 : Int32) &&& 31) = nI (m / 2 ^ 12) from shr_nI (c := 12) (by omega) (by decide), and12 (by omega)]
  simp only [Option.bind_some]
  rw [wA_y (by omega) hu]
  rfl
theorem ms_am (h : MS U S u R0 qs T B P t s) {m : Nat} (hm : m < 2 ^ 24) : MS U S u R0 qs T B P (qI (qI t 10 u 10 (nI (m / 4096))) 10 u 12 (nI (m % 4096))) (pA (pA s 43 u (nI (m / 4096))) 44 u (nI (m % 4096))) := ms_mq (ms_ac h (w12_n (by omega))) (w12_n (Nat.mod_lt _ (by decide)))
/-- shifting to the right: the sign stays -/
theorem shr_l (hU : U < 7) (hu : u < U) {kd : Int32} (hk10 : ¬ kd = 10) {g : Nat} (hg : g < 2) (hg0 : ¬ kd = 12 → g = 0) {c : Nat} (hc : c < 100) : ∀ (m j x : Nat) (t : CS) (s : RS), MS U S u R0 qs T B P t s → s.2.1 46 u = nI g → x < 2 ^ 24 → (kd = 12 → x / 2 ^ 23 = g) → j ≤ c → c < j + m → ∃ t2 s2, ul_X3_shift_47 U S N m (some u) kd (nI c) (nI x) (nI g) (nI j) t = some ((), t2) ∧ l_third_246 U S N m (nI u) kd (nI x) (nI (c - j)) s = some ((), s2) ∧ MS U S u R0 qs T B P t2 s2 := by
  intro m
  induction m with
  | zero => intro j x t s _ _ _ _ h1 h2; omega
  | succ m ih =>
    intro j x t s h h46 hx hs h1 h2
    show ∃ t2 s2, uh_X3_shift_47 U S N (ul_X3_shift_47 U S N m) (some u) kd (nI c) (nI x) (nI g) (nI j) t = _ ∧ h_third_246 U S N (l_third_246 U S N m) (nI u) kd (nI x) (nI (c - j)) s = _ ∧ _
    unfold uh_X3_shift_47 h_third_246
    by_cases hj : c ≤ j
    · rw [if_pos ((leI (by omega) (by omega)).mpr hj), show c - j = 0 by omega, if_pos (by decide), setL hx, t324 hU hu hx]
      exact ⟨_, _, rfl, rfl, ms_am h hx⟩
    · rw [if_neg (fun z => hj ((leI (by omega) (by omega)).mp z)), if_neg (show ¬ nI (c - j) ≤ (0 : Int32) from fun z => by have := (leI (b := 0) (by omega) (by decide)).mp z; omega), if_pos hk10, if_pos hk10]
      unfold u_X3_shift_89 g_third_301 g_third_318
      have e1 : (nI x >>> ((1 : Int32) &&& 31)) ||| (nI g <<< ((23 : Int32) &&& 31)) = nI (2 ^ 23 * g + x / 2) := by
        rw [show nI x >>> ((1 : Int32) &&& 31) = nI (x / 2 ^ 1) from shr_nI (c := 1) (by omega) (by decide), show nI g <<< ((23 : Int32) &&& 31) = nI (g * 2 ^ 23) from shl_nI (c := 23) (by decide), or_nI _ _ (by omega) (by omega), or23 (by omega)]
      have e2 : nI (c - j) + (-1) = nI (c - (j + 1)) := by
        rw [sub_1, show c - j = (c - (j + 1)) + 1 by omega, nI_pred]
      have key : ∃ t2 s2, ul_X3_shift_47 U S N m (some u) kd (nI c) (nI (2 ^ 23 * g + x / 2)) (nI g) (nI (j + 1)) t = some ((), t2) ∧ l_third_246 U S N m (nI u) kd (nI (2 ^ 23 * g + x / 2)) (nI (c - (j + 1))) s = some ((), s2) ∧ MS U S u R0 qs T B P t2 s2 := by
        refine ih (j + 1) (2 ^ 23 * g + x / 2) t s h h46 (by omega) (fun _ => by omega) (by omega) (by omega)
      rw [e1, nI_1]
      by_cases c12 : kd = 12
      · rw [if_neg (not_not_intro c12), show nI x >>> ((23 : Int32) &&& 31) = nI (x / 2 ^ 23) from shr_nI (c := 23) (by omega) (by decide), hs c12, wA_y (by omega) hu, pA_id s h46]
        simp only [Option.bind_some]
        rw [rA_y (by omega) hu, h46]
        simp only [Option.bind_some]
        rw [e1, e2]
        exact key
      · have g0 := hg0 c12
        subst g0
        rw [if_pos c12, wA_y (by omega) hu, pA_id s (show s.2.1 46 u = 0 from h46)]
        simp only [Option.bind_some]
        rw [rA_y (by omega) hu, h46]
        simp only [Option.bind_some]
        rw [e1, e2]
        exact key
theorem shl_l (hU : U < 7) (hu : u < U) {g : Int32} {c : Nat} (hc : c < 100) : ∀ (m j x : Nat) (t : CS) (s : RS), MS U S u R0 qs T B P t s → x < 2 ^ 24 → j ≤ c → c < j + m → ∃ t2 s2, ul_X3_shift_47 U S N m (some u) 10 (nI c) (nI x) g (nI j) t = some ((), t2) ∧ l_third_246 U S N m (nI u) 10 (nI x) (nI (c - j)) s = some ((), s2) ∧ MS U S u R0 qs T B P t2 s2 := by
  intro m
  induction m with
  | zero => intro j x t s _ _ h1 h2; omega
  | succ m ih =>
    intro j x t s h hx h1 h2
    show ∃ t2 s2, uh_X3_shift_47 U S N (ul_X3_shift_47 U S N m) (some u) 10 (nI c) (nI x) g (nI j) t = _ ∧ h_third_246 U S N (l_third_246 U S N m) (nI u) 10 (nI x) (nI (c - j)) s = _ ∧ _
    unfold uh_X3_shift_47 h_third_246
    by_cases hj : c ≤ j
    · rw [if_pos ((leI (by omega) (by omega)).mpr hj), show c - j = 0 by omega, if_pos (by decide), setL hx, t324 hU hu hx]
      exact ⟨_, _, rfl, rfl, ms_am h hx⟩
    · rw [if_neg (fun z => hj ((leI (by omega) (by omega)).mp z)), if_neg (show ¬ nI (c - j) ≤ (0 : Int32) from fun z => by have := (leI (b := 0) (by omega) (by decide)).mp z; omega), if_neg (not_not_intro rfl), if_neg (not_not_intro rfl)]
      unfold u_X3_shift_89 g_third_318
      have e2 : nI (c - j) + (-1) = nI (c - (j + 1)) := by
        rw [sub_1, show c - j = (c - (j + 1)) + 1 by omega, nI_pred]
      simp only [Option.bind_some]
      rw [show nI x >>> ((23 : Int32) &&& 31) = nI (x / 2 ^ 23) from shr_nI (c := 23) (by omega) (by decide), and1 (by omega), show nI x <<< ((1 : Int32) &&& 31) = nI (x * 2 ^ 1) from shl_nI (c := 1) (by decide), and24 (by omega), Nat.mod_eq_of_lt (show x / 2 ^ 23 < 2 by omega), wA_y (by omega) hu, nI_1, e2]
      exact ih (j + 1) (x * 2 ^ 1 % 16777216) _ _ (ms_lk h (bit_of (by omega))) (Nat.mod_lt _ (by decide)) (by omega) (by omega)
theorem al_sh (hU : U < 7) (hN : 100 < N) (hu : u < U) (h : MS U S u R0 qs T B P t s) {kd : Int32} {c a m : Nat} (hc1 : 1 ≤ c) (hc : c < 100) (ha : a < 4096) (hm : m < 4096) (e43 : s.2.1 43 u = nI a) (e44 : s.2.1 44 u = nI m) : ∃ t2 s2, u_X3_shift U S N (some u) kd (nI c) t = some ((), t2) ∧ l_third_246 U S N N (nI u) kd (nI (4096 * a + m)) (nI c) s = some ((), s2) ∧ MS U S u R0 qs T B P t2 s2 := by
  have ra1 : t.1 10 u 10 = nI a := (ms_rac h).1.trans e43
  have rm1 : t.1 10 u 12 = nI m := (ms_rmq h).1.trans e44
  have eall : (nI a <<< ((12 : Int32) &&& 31)) ||| nI m = nI (4096 * a + m) := by
    rw [show nI a <<< ((12 : Int32) &&& 31) = nI (a * 2 ^ 12) from shl_nI (c := 12) (by decide), or_nI _ _ (by omega) (by omega), or12 hm]
  unfold u_X3_shift u_X3_shift_30 u_X3_shift_44
  simp only [Option.bind_some]
  rw [ra1, rm1, eall]
  by_cases c10 : kd = 10
  · subst c10
    rw [if_pos (by decide), if_pos rfl]
    have := shl_l (N := N) hU hu (g := 0) hc N 0 (4096 * a + m) t s h (by omega) (by omega) (by omega)
    rw [Nat.sub_zero] at this
    exact this
  · rw [if_neg c10, if_neg c10]
    have pre : ∀ g : Nat, g < 2 → (kd = 12 → (4096 * a + m) / 2 ^ 23 = g) → (¬ kd = 12 → g = 0) → ∃ t2 s2, ul_X3_shift_47 U S N N (some u) kd (nI c) (nI (4096 * a + m)) (nI g) 0 (qI t 10 u 11 (nI g)) = some ((), t2) ∧ l_third_246 U S N N (nI u) kd (nI (4096 * a + m)) (nI c) s = some ((), s2) ∧ MS U S u R0 qs T B P t2 s2 := by
      intro g hg h12 hn12
      have hI := ms_lk h (bit_of hg)
      obtain ⟨t2, s2, f1, f2, f3⟩ := shr_l (N := N) hU hu c10 hg hn12 hc N 0 (4096 * a + m) _ _ hI (upd_y _ _ _) (by omega) h12 (by omega) (by omega)
      rw [Nat.sub_zero] at f2
      refine ⟨t2, s2, f1, ?_, f3⟩
      rw [← f2]
      obtain ⟨n, hn⟩ : ∃ n, N = n + 1 := ⟨N - 1, by omega⟩
      have ex : ∀ M, l_third_246 U S M (n + 1) (nI u) kd (nI (4096 * a + m)) (nI c) s = l_third_246 U S M (n + 1) (nI u) kd (nI (4096 * a + m)) (nI c) (pA s 46 u (nI g)) := by
        intro M
        show h_third_246 U S M (l_third_246 U S M n) (nI u) kd (nI (4096 * a + m)) (nI c) s = h_third_246 U S M (l_third_246 U S M n) (nI u) kd (nI (4096 * a + m)) (nI c) (pA s 46 u (nI g))
        unfold h_third_246
        rw [if_neg (show ¬ nI c ≤ (0 : Int32) from fun z => by have := (leI (b := 0) (by omega) (by decide)).mp z; omega), if_pos c10, if_neg (show ¬ nI c ≤ (0 : Int32) from fun z => by have := (leI (b := 0) (by omega) (by decide)).mp z; omega), if_pos c10]
        unfold g_third_301
        rw [wA_y (by omega) hu, wA_y (by omega) hu, wA_y (by omega) hu, wA_y (by omega) hu, pA_pA, pA_pA]
      have := ex N
      rw [← hn] at this
      exact this
    by_cases c12 : kd = 12
    · rw [if_neg (not_not_intro c12), show nI a >>> ((11 : Int32) &&& 31) = nI (a / 2 ^ 11) from shr_nI (c := 11) (by omega) (by decide)]
      exact pre (a / 2 ^ 11) (by omega) (fun _ => by omega) (fun z => absurd c12 z)
    · rw [if_pos c12]
      exact pre 0 (by omega) (fun z => absurd z c12) (fun _ => rfl)
theorem al_dv (hU : U < 7) (hu : u < U) (h : MS U S u R0 qs T B P t s) {w a m : Nat} (hw : w < 4096) (ha : a < 4096) (hm : m < 4096) (e43 : s.2.1 43 u = nI a) (e44 : s.2.1 44 u = nI m) : ∃ t2 s2, u_X3_divide U S N (some u) (nI w) t = some ((), t2) ∧ (if nI a < nI w then (if (nI w : Int32) = 0 then none else if (nI w : Int32) = 0 then none else (wA U s 46 (nI u) 0).bind fun μ11 => g_third_324 U S N (nI u) (((nI (4096 * a + m) - nI (4096 * a + m) / nI w * nI w) * 4096) + (nI (4096 * a + m) / nI w)) μ11) else (wA U s 46 (nI u) 1).bind fun μ13 => some ((), μ13)) = some ((), s2) ∧ MS U S u R0 qs T B P t2 s2 := by
  have ra1 : t.1 10 u 10 = nI a := (ms_rac h).1.trans e43
  have rm1 : t.1 10 u 12 = nI m := (ms_rmq h).1.trans e44
  have eall : (nI a <<< ((12 : Int32) &&& 31)) ||| nI m = nI (4096 * a + m) := by
    rw [show nI a <<< ((12 : Int32) &&& 31) = nI (a * 2 ^ 12) from shl_nI (c := 12) (by decide), or_nI _ _ (by omega) (by omega), or12 hm]
  unfold u_X3_divide u_X3_divide_12
  simp only [Option.bind_some]
  rw [ra1, rm1, eall]
  by_cases c : a < w
  · have hw0 : ¬ nI w = 0 := fun z => by have := (eqI (b := 0) (by omega) (by decide)).mp z; omega
    have hlt : nI a < nI w := (ltI (by omega) (by omega)).mpr c
    rw [if_neg (show ¬ nI w ≤ (0 : Int32) from fun z => by have := (leI (b := 0) (by omega) (by decide)).mp z; omega), if_pos hlt, if_neg hw0, if_pos hlt, if_neg hw0, if_neg hw0, if_neg hw0, wA_y (by omega) hu]
    simp only [Option.bind_some]
    have ed : nI (4096 * a + m) / nI w = nI ((4096 * a + m) / w) := pk_div (by omega) (by omega) (by omega)
    have em : nI (4096 * a + m) - nI ((4096 * a + m) / w) * nI w = nI ((4096 * a + m) % w) := by
      rw [mul_nI, sub_nI (Nat.div_mul_le_self _ _)]
      congr 1
      have := Nat.div_add_mod (4096 * a + m) w
      rw [Nat.mul_comm] at this
      omega
    have hq : (4096 * a + m) / w < 4096 := by
      rw [Nat.div_lt_iff_lt_mul (by omega)]
      have : (a + 1) * 4096 ≤ w * 4096 := Nat.mul_le_mul_right _ c
      omega
    have hr : (4096 * a + m) % w < w := Nat.mod_lt _ (by omega)
    rw [ed, em, show (4096 : Int32) = nI 4096 from rfl, mul_nI, nI_add, t324 hU hu (by omega)]
    have d1 : ((4096 * a + m) % w * 4096 + (4096 * a + m) / w) / 4096 = (4096 * a + m) % w := (dm hq).1
    have d2 : ((4096 * a + m) % w * 4096 + (4096 * a + m) / w) % 4096 = (4096 * a + m) / w := (dm hq).2
    rw [d1, d2]
    refine ⟨_, _, rfl, rfl, ?_⟩
    have k1 := ms_lk (ms_ac (ms_mq h (w12_n hq)) (w12_n (show (4096 * a + m) % w < 4096 by omega))) (x := 0) (Or.inl rfl)
    have er : pA (pA (pA s 46 u 0) 43 u (nI ((4096 * a + m) % w))) 44 u (nI ((4096 * a + m) / w)) = pA (pA (pA s 44 u (nI ((4096 * a + m) / w))) 43 u (nI ((4096 * a + m) % w))) 46 u 0 := by
      rw [pA_comm _ (show (43 : Nat) ≠ 44 by decide), pA_comm s (show (46 : Nat) ≠ 44 by decide), pA_comm _ (show (46 : Nat) ≠ 43 by decide)]
    rw [er]
    exact k1
  · have hlt : ¬ nI a < nI w := fun z => c ((ltI (by omega) (by omega)).mp z)
    rw [if_neg hlt, if_neg hlt, wA_y (by omega) hu]
    have k1 := ms_lk h (x := 1) (Or.inr rfl)
    by_cases cw : nI w ≤ 0
    · rw [if_pos cw]; exact ⟨_, _, rfl, rfl, k1⟩
    · rw [if_neg cw]; exact ⟨_, _, rfl, rfl, k1⟩
theorem al_119 (hU : U < 7) (hS5 : S < 5) (hN : 100 < N) (hu : u < U) (hk : k < S) (ho : R0 10 u 19 = some k) (h : MS U S u R0 qs T B P t s) {v : Int32} (h78 : s.1 78 = v) : ∃ t2 s2, u_X3_extend_131 U S N (some u) (some k) (v &&& 14) t = some (1, t2) ∧ g_third_119 U S N (nI u) s = some ((), s2) ∧ MS U S u R0 qs T B P t2 s2 := by
  unfold u_X3_extend_131 u_X3_extend_173 g_third_119
  rw [h78]
  by_cases c0 : v &&& 14 = 0
  · rw [if_pos c0, if_neg (not_not_intro c0)]
    exact ⟨_, _, rfl, rfl, h⟩
  · obtain ⟨rp1, p, hp, rp2⟩ := ms_rpc h
    obtain ⟨rw1, w, hw, rw2⟩ := ms_rco h k p
    rw [if_neg c0, if_pos c0]
    unfold g_word_
    simp only [Option.bind_some]
    rw [rp1, rp2, and4095 hp, rA_y (by omega) hu, rp2]
    simp only [Option.bind_some]
    rw [rH_y (by decide) hp, ld hU hS5 hu hk (ms_41 h hu ho) hp (and4095 hp), rw1, rw2]
    simp only [Option.bind_some]
    rw [rA_y (by omega) hu, rp2]
    simp only [Option.bind_some]
    rw [wA_y (by omega) hu]
    simp only [Option.bind_some]
    have h1 := ms_pc h (w12_and (nI p + 1))
    obtain ⟨ra1, a, ha, ra2⟩ := ms_rac h1
    obtain ⟨rm1, m, hm, rm2⟩ := ms_rmq h1
    rw [rA_y (by omega) hu, rA_y (by omega) hu, ra2, rm2]
    simp only [Option.bind_some]
    rw [show (4096 : Int32) * nI a + nI m = nI (4096 * a + m) by rw [show (4096 : Int32) = nI 4096 from rfl, mul_nI, nI_add]]
    unfold u_X3_reckon u_X3_reckon_70
    simp only [Option.bind_some]
    by_cases c4 : v &&& 14 = 4
    · rw [if_pos c4, if_neg (not_not_intro c4), ra1, rm1, ra2, rm2, mul_nI, nI_add]
      have hx : w * m + a < 2 ^ 24 := by
        have : w * m ≤ 4095 * 4095 := Nat.mul_le_mul (by omega) (by omega)
        omega
      rw [setL hx, wA_y (by omega) hu]
      simp only [Option.bind_some]
      rw [t324 hU hu hx]
      refine ⟨_, _, rfl, rfl, ?_⟩
      have k1 := ms_lk (ms_am h1 hx) (x := 0) (Or.inl rfl)
      rw [show pA (pA (pA (pA s 45 u (nI p + 1 &&& 4095)) 46 u 0) 43 u (nI ((w * m + a) / 4096))) 44 u (nI ((w * m + a) % 4096)) = pA (pA (pA (pA s 45 u (nI p + 1 &&& 4095)) 43 u (nI ((w * m + a) / 4096))) 44 u (nI ((w * m + a) % 4096))) 46 u 0 by rw [pA_comm (pA s 45 u (nI p + 1 &&& 4095)) (show (46 : Nat) ≠ 43 by decide), pA_comm _ (show (46 : Nat) ≠ 44 by decide)]]
      exact k1
    · rw [if_neg c4, if_pos c4]
      by_cases c6 : v &&& 14 = 6
      · rw [if_pos c6, if_neg (not_not_intro c6)]
        obtain ⟨t2, s2, f1, f2, f3⟩ := al_dv (N := N) hU hu h1 hw ha hm ra2 rm2
        rw [f1, f2]
        exact ⟨_, _, rfl, rfl, f3⟩
      · rw [if_neg c6, if_pos c6]
        obtain ⟨c, hc, ec⟩ : ∃ c, c < 32 ∧ nI w &&& 31 = nI c := ⟨_, Nat.mod_lt _ (by decide), and_md (nI w) (m := 5) (by decide) 31 rfl⟩
        rw [ec, nI_1]
        obtain ⟨t2, s2, f1, f2, f3⟩ := al_sh (N := N) hU hN hu h1 (kd := v &&& 14) (c := c + 1) (by omega) (by omega) ha hm ra2 rm2
        rw [f1, f2]
        exact ⟨_, _, rfl, rfl, f3⟩
theorem al_38 (hU : U < 7) (hS5 : S < 5) (hN : 100 < N) (hu : u < U) (hk : k < S) (ho : R0 10 u 19 = some k) (h : MS U S u R0 qs T B P t s) {i : Nat} (hi : i < 4096) (h78 : s.1 78 = nI i) : ∃ t2 s2, u_X3_extend_38 U S N (some u) (some k) (nI i) (nI i &&& 14) t = some (1, t2) ∧ g_third_17 U S N (nI u) s = some ((), s2) ∧ MS U S u R0 qs T B P t2 s2 := by
  have t64 : (nI i &&& 64 = 0) ↔ (i &&& 64 = 0) := tb (c := 64) (d := 0) hi (by decide) (by decide)
  have t16 : (nI i &&& 16 = 0) ↔ (i &&& 16 = 0) := tb (c := 16) (d := 0) hi (by decide) (by decide)
  have u16 : (nI i &&& 80 = 16) ↔ (i &&& 80 = 16) := tb (c := 80) (d := 16) hi (by decide) (by decide)
  have u64 : (nI i &&& 80 = 64) ↔ (i &&& 80 = 64) := tb (c := 80) (d := 64) hi (by decide) (by decide)
  have u80 : (nI i &&& 80 = 80) ↔ (i &&& 80 = 80) := tb (c := 80) (d := 80) hi (by decide) (by decide)
  have b := b80 i hi
  obtain ⟨ra1, ra2⟩ := ms_rac h
  obtain ⟨rm1, rm2⟩ := ms_rmq h
  unfold u_X3_extend_38 g_third_17 g_third_64
  rw [has_r h78]
  simp only [Option.bind_some]
  by_cases c64 : i &&& 64 = 0
  · rw [if_pos (t64.mpr c64), if_pos rfl, has_r h78]
    simp only [Option.bind_some]
    rw [if_pos (t64.mpr c64), if_pos rfl, has_r h78]
    simp only [Option.bind_some]
    by_cases c16 : i &&& 16 = 0
    · rw [if_pos (t16.mpr c16), if_pos rfl, if_neg (fun z => (b.1.mp (u16.mp z)).2 c16), if_neg (fun z => (b.2.1.mp (u64.mp z)).1 c64), if_neg (fun z => (b.2.2.mp (u80.mp z)).1 c64)]
      exact al_119 hU hS5 hN hu hk ho h h78
    · rw [if_neg (fun z => c16 (t16.mp z)), if_neg (show ¬ (1 : Int32) = 0 by decide), if_pos (u16.mpr (b.1.mpr ⟨c64, c16⟩)), rA_y (by omega) hu, ra1]
      simp only [Option.bind_some]
      rw [wA_y (by omega) hu]
      simp only [Option.bind_some]
      rw [wA_y (by omega) hu]
      simp only [Option.bind_some]
      exact al_119 hU hS5 hN hu hk ho (ms_ac (ms_mq h ra2) w12_0) h78
  · rw [if_neg (fun z => c64 (t64.mp z)), if_neg (show ¬ (1 : Int32) = 0 by decide), has_r h78]
    simp only [Option.bind_some]
    by_cases c16 : i &&& 16 = 0
    · rw [if_pos (t16.mpr c16), if_pos rfl, has_r h78]
      simp only [Option.bind_some]
      rw [if_neg (fun z => c64 (t64.mp z)), if_neg (show ¬ (1 : Int32) = 0 by decide), if_neg (fun z => (b.1.mp (u16.mp z)).2 c16), if_pos (u64.mpr (b.2.1.mpr ⟨c64, c16⟩)), rA_y (by omega) hu, rA_y (by omega) hu, ra1, rm1]
      simp only [Option.bind_some]
      rw [wA_y (by omega) hu]
      simp only [Option.bind_some]
      exact al_119 hU hS5 hN hu hk ho (ms_ac h (w12_or ra2 rm2)) h78
    · rw [if_neg (fun z => c16 (t16.mp z)), if_neg (show ¬ (1 : Int32) = 0 by decide), if_neg (fun z => c64 (b.1.mp (u16.mp z)).1), if_neg (fun z => c16 (b.2.1.mp (u64.mp z)).2), if_pos (u80.mpr (b.2.2.mpr ⟨c64, c16⟩)), rA_y (by omega) hu, rA_y (by omega) hu, ra1, rm1]
      simp only [Option.bind_some]
      rw [wA_y (by omega) hu]
      simp only [Option.bind_some]
      rw [wA_y (by omega) hu]
      simp only [Option.bind_some]
      exact al_119 hU hS5 hN hu hk ho (ms_mq (ms_ac h rm2) ra2) h78
theorem ex_c {v : Int32} (n2 : ¬ v &&& 14 = 2) (n8 : ¬ v &&& 14 = 8) : u_X3_extend U S N (some u) (some k) v t = if (v &&& 128) = 0 then u_X3_extend_38 U S N (some u) (some k) v (v &&& 14) t else u_X3_extend_38 U S N (some u) (some k) v (v &&& 14) (qI t 10 u 10 0) := by
  unfold u_X3_extend
  rw [if_neg n2, if_pos n8, Option.bind_some, Option.bind_some]
theorem th_r (hU : U < 7) (hu : u < U) {v : Int32} (h78 : s.1 78 = v) : g_third U S N (nI u) s = if (v &&& 128) = 0 then g_third_17 U S N (nI u) s else g_third_17 U S N (nI u) (pA s 43 u 0) := by
  unfold g_third
  rw [has_r h78]
  simp only [Option.bind_some]
  by_cases c : v &&& 128 = 0
  · rw [if_pos c, if_pos c, if_pos rfl]
  · rw [if_neg c, if_neg c, if_neg (show ¬ (1 : Int32) = 0 by decide), wA_y (by omega) hu]
    simp only [Option.bind_some]
theorem al_op3 (hU : U < 7) (hS5 : S < 5) (hN : 100 < N) (hu : u < U) (hk : k < S) (ho : R0 10 u 19 = some k) (h : MS U S u R0 qs T B P t s) {i : Nat} (hi : i < 4096) (h78 : s.1 78 = nI i) (n2 : ¬ nI i &&& 14 = 2) (n8 : ¬ nI i &&& 14 = 8) : ∃ t2 s2, u_X3_extend U S N (some u) (some k) (nI i) t = some (1, t2) ∧ g_third U S N (nI u) s = some ((), s2) ∧ MS U S u R0 qs T B P t2 s2 := by
  rw [ex_c n2 n8, th_r hU hu h78]
  by_cases c : nI i &&& 128 = 0
  · rw [if_pos c, if_pos c]
    exact al_38 hU hS5 hN hu hk ho h hi h78
  · rw [if_neg c, if_neg c]
    exact al_38 hU hS5 hN hu hk ho (ms_ac h w12_0) hi h78
end
