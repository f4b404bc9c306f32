/-! LAYER 3, the house: the channel moves words -/
def seg (g f : Nat → Int32) (lo hi : Nat) : Nat → Int32 := fun k => if lo ≤ k ∧ k < hi then f k else g k
theorem seg_cpy (f g : Nat → Int32) (b n : Nat) : va_cpy f g b b n = seg g f b (b + n) := by
  funext k
  unfold va_cpy seg
  by_cases h : b ≤ k ∧ k < b + n
  · rw [if_pos h, if_pos h]; congr 1; omega
  · rw [if_neg h, if_neg h]
theorem seg_e (g f : Nat → Int32) (b : Nat) : seg g f b b = g := by
  funext k
  unfold seg
  rw [if_neg (fun e => by omega)]
theorem seg_s (g f : Nat → Int32) {b c : Nat} (h : b < c) : seg (upd g b (f b)) f (b + 1) c = seg g f b c := by
  funext k
  unfold seg
  by_cases h1 : b + 1 ≤ k ∧ k < c
  · rw [if_pos h1, if_pos ⟨by omega, h1.2⟩]
  · rw [if_neg h1]
    by_cases h2 : k = b
    · subst h2; rw [upd_y, if_pos ⟨Nat.le_refl _, h⟩]
    · rw [upd_n _ _ h2, if_neg (fun e => h1 ⟨by omega, e.2⟩)]
theorem seg_all {P : Int32 → Prop} {g f : Nat → Int32} (hg : ∀ i, P (g i)) (hf : ∀ i, P (f i)) (b c : Nat) : ∀ i, P (seg g f b c i) := by
  intro i
  unfold seg
  by_cases h : b ≤ i ∧ i < c
  · rw [if_pos h]; exact hf i
  · rw [if_neg h]; exact hg i
theorem cpH_y (t : CS) (f : Nat → Int32) (ci j k : Nat) {b : Nat} (hb : b + 16 ≤ 4096) : cpH t 4096 f (nI b) 4096 ci j k (nI b) 16 = some (qF t ci j k (seg (t.2.1 ci j k) f b (b + 16))) := by
  unfold cpH
  have h16 : (16 : Int32).toNatClampNeg = 16 := rfl
  rw [nI_clamp (by omega), h16, if_neg, seg_cpy]
  rintro (z | z | z | z | z)
  · exact nI_nn (by omega) z
  · exact nI_nn (by omega) z
  · exact absurd z (by decide)
  · omega
  · omega
theorem pI_pI (s : RS) (k : Nat) (x y : Int32) : pI (pI s k x) k y = pI s k y := by
  unfold pI
  dsimp only
  rw [up1_up1]
theorem pI_id (s : RS) {k : Nat} {x : Int32} (h : s.1 k = x) : pI s k x = s := by
  unfold pI
  rw [← h, up1_id]
section
variable {U S N : Nat} {t : CS} {s : RS} {qs : List Nat} {T B D : Nat} {P : Nat → Nat}
def tailM (U S N : Nat) (u : Nat) (s : RS) : Option (Unit × RS) := if (3 : Int32) ≤ (s.1 67) then g_moves_196 U S N (nI u) (s.1 70) 128 s else g_moves_196 U S N (nI u) (s.1 70) 4096 s
theorem mv_out (hU : U < 7) (hS5 : S < 5) {u k b : Nat} (hu : u < U) (hk : k < S) (hb : b + 16 ≤ 4096) : ∀ (m i : Nat) (s : RS), s.1 67 = 1 → s.1 69 = nI k → s.1 70 = nI (b + i) → i ≤ 16 → 16 < i + m → l_moves_7 U S N m (nI u) (nI i) s = tailM U S N u (pI (sG s 36 u (seg (s.2.2 36 u) (s.2.2 35 k) (b + i) (b + 16))) 70 (nI (b + 16))) := by
  intro m
  induction m with
  | zero => intro i s _ _ _ h1 h2; omega
  | succ m ih =>
    intro i s h67 h69 h70 h1 h2
    show h_moves_7 U S N (l_moves_7 U S N m) (nI u) (nI i) s = _
    unfold h_moves_7
    by_cases hi : i = 16
    · subst hi
      rw [if_pos (show (16 : Int32) ≤ nI 16 from (leI (a := 16) (by decide) (by decide)).mpr (Nat.le_refl _)), seg_e, sG_id, pI_id s h70]
      rfl
    · rw [if_neg (show ¬ (16 : Int32) ≤ nI i from fun z => by have := (leI (a := 16) (by decide) (by omega)).mp z; omega), rA_y (by omega) hu, rA_y (by omega) hu, h67]
      simp only [Option.bind_some, not_true_eq_false, if_false]
      rw [rQ_y (by omega) hu, h69]
      simp only [Option.bind_some]
      rw [rQ_y (by omega) hk, h70]
      simp only [Option.bind_some]
      rw [rG_y (by decide) (by omega)]
      simp only [Option.bind_some]
      rw [wG_y (by decide) (by omega)]
      simp only [Option.bind_some]
      unfold g_moves_159
      simp only [Option.bind_some]
      rw [show (pG s 36 u (b + i) (s.2.2 35 k (b + i))).1 70 = nI (b + i) from h70, nI_1, nI_1, ih (i + 1) (pI (pG s 36 u (b + i) (s.2.2 35 k (b + i))) 70 (nI (b + i + 1))) h67 h69 rfl (by omega) (by omega)]
      congr 1
      rw [show sG (pI (pG s 36 u (b + i) (s.2.2 35 k (b + i))) 70 (nI (b + i + 1))) 36 u (seg ((pI (pG s 36 u (b + i) (s.2.2 35 k (b + i))) 70 (nI (b + i + 1))).2.2 36 u) ((pI (pG s 36 u (b + i) (s.2.2 35 k (b + i))) 70 (nI (b + i + 1))).2.2 35 k) (b + (i + 1)) (b + 16)) = pI (sG (sG s 36 u (upd (s.2.2 36 u) (b + i) (s.2.2 35 k (b + i)))) 36 u (seg ((sG s 36 u (upd (s.2.2 36 u) (b + i) (s.2.2 35 k (b + i)))).2.2 36 u) (s.2.2 35 k) (b + i + 1) (b + 16))) 70 (nI (b + i + 1)) from rfl, pI_pI, sG_sG, sG_s, seg_s _ _ (by omega)]
theorem mv_in (hU : U < 7) (hS5 : S < 5) {u k b : Nat} (hu : u < U) (hk : k < S) (hb : b + 16 ≤ 4096) : ∀ (m i : Nat) (s : RS), s.1 67 = 2 → s.1 69 = nI k → s.1 70 = nI (b + i) → i ≤ 16 → 16 < i + m → l_moves_7 U S N m (nI u) (nI i) s = tailM U S N u (pI (sG s 35 k (seg (s.2.2 35 k) (s.2.2 36 u) (b + i) (b + 16))) 70 (nI (b + 16))) := by
  intro m
  induction m with
  | zero => intro i s _ _ _ h1 h2; omega
  | succ m ih =>
    intro i s h67 h69 h70 h1 h2
    show h_moves_7 U S N (l_moves_7 U S N m) (nI u) (nI i) s = _
    unfold h_moves_7
    by_cases hi : i = 16
    · subst hi
      rw [if_pos (show (16 : Int32) ≤ nI 16 from (leI (a := 16) (by decide) (by decide)).mpr (Nat.le_refl _)), seg_e, sG_id, pI_id s h70]
      rfl
    · rw [if_neg (show ¬ (16 : Int32) ≤ nI i from fun z => by have := (leI (a := 16) (by decide) (by omega)).mp z; omega), rA_y (by omega) hu, rA_y (by omega) hu, h67]
      simp only [Option.bind_some]
      rw [if_pos (by decide)]
      simp only [not_true_eq_false, if_false]
      rw [h69, rQ_y (by omega) hk]
      simp only [Option.bind_some]
      rw [rQ_y (by omega) hu, h70]
      simp only [Option.bind_some]
      rw [rG_y (by decide) (by omega)]
      simp only [Option.bind_some]
      rw [wG_y (by decide) (by omega)]
      simp only [Option.bind_some]
      unfold g_moves_159
      simp only [Option.bind_some]
      rw [show (pG s 35 k (b + i) (s.2.2 36 u (b + i))).1 70 = nI (b + i) from h70, nI_1, nI_1, ih (i + 1) (pI (pG s 35 k (b + i) (s.2.2 36 u (b + i))) 70 (nI (b + i + 1))) h67 h69 rfl (by omega) (by omega)]
      congr 1
      rw [show sG (pI (pG s 35 k (b + i) (s.2.2 36 u (b + i))) 70 (nI (b + i + 1))) 35 k (seg ((pI (pG s 35 k (b + i) (s.2.2 36 u (b + i))) 70 (nI (b + i + 1))).2.2 35 k) ((pI (pG s 35 k (b + i) (s.2.2 36 u (b + i))) 70 (nI (b + i + 1))).2.2 36 u) (b + (i + 1)) (b + 16)) = pI (sG (sG s 35 k (upd (s.2.2 35 k) (b + i) (s.2.2 36 u (b + i)))) 35 k (seg ((sG s 35 k (upd (s.2.2 35 k) (b + i) (s.2.2 36 u (b + i)))).2.2 35 k) (s.2.2 36 u) (b + i + 1) (b + 16))) 70 (nI (b + i + 1)) from rfl, pI_pI, sG_sG, sG_s, seg_s _ _ (by omega)]
theorem Sim_mv (H : Sim U S t s) (h : s.1 67 ≠ 0) (x : Int32) : Sim U S (qI t 1 0 3 x) (pI s 70 x) := by
  obtain ⟨hA, hSs, hB, hC, hR, hL, hK, hQ, hG, hM, hT⟩ := H
  refine ⟨hA, hSs, ?_, hC, hR, hL, ?_, hQ, hG, hM, hT⟩
  · intro p hp
    simp only [mB, List.mem_cons, List.not_mem_nil, or_false] at hp
    rcases hp with rfl | rfl | rfl | rfl | rfl | rfl | rfl | rfl | rfl | rfl | rfl | rfl <;> exact hB _ (by decide)
  · rcases hK with ⟨a, _⟩ | ⟨a0, u, k, hu, hk, a1, a2, a3, a4, a5⟩
    · exact absurd a h
    · exact Or.inr ⟨a0, u, k, hu, hk, a1, a2, a3, a4, rfl⟩
theorem HJ_cF {R : Rf} {v w : Nat → Int32} (h : HJ U S R v w s qs T B P D) (u : Nat) {f : Nat → Int32} (hf : ∀ i, W12 (f i)) : HJ U S R v w (sG s 35 u f) qs T B P D := by
  obtain ⟨⟨a1, a2, a3, a4, a5, a6, a7⟩, hT, hB, hX, hS, hQ, hR, hO⟩ := h
  refine ⟨⟨a1, a2, a3, a4, a5, ?_, a7⟩, hT, hB, hX, hS, hQ, hR, hO⟩
  intro k i
  show W12 (up1 (s.2.2 35) u f k i)
  by_cases e : k = u
  · subst e; rw [up1_s]; exact hf i
  · rw [up1_n _ _ e]; exact a6 k i
theorem HJ_mv {R : Rf} {v w : Nat → Int32} (h : HJ U S R v w s qs T B P 0) {m D2 : Nat} (h1 : s.1 67 = 1 ∨ s.1 67 = 2 → m + 1 < 256 + D2) (h2 : s.1 67 = 3 ∨ s.1 67 = 4 → m + 1 < 8 + D2) : HJ U S R v w (pI s 70 (nI (16 * (m + 1)))) qs T B P D2 := by
  obtain ⟨hW, hT, hB, hX, hS, hQ, hR, hO⟩ := h
  refine ⟨hW, hT, hB, hX, hS, hQ, hR, ?_⟩
  intro _ u k e1 e2
  rcases hO (by decide) u k e1 e2 with ⟨d1, d2, d3, d4, d5⟩ | ⟨d1, d2, d3, d4⟩ | ⟨d1, d2, d3, d4⟩
  · exact Or.inl ⟨d1, d2, d3, d4, m + 1, h1 (Or.inl d1), rfl⟩
  · exact Or.inr (Or.inl ⟨d1, d2, d3, m + 1, h1 (Or.inr d1), rfl⟩)
  · exact Or.inr (Or.inr ⟨d1, d2, d3, m + 1, h2 d1, rfl⟩)
theorem and7 (x : Int32) : ∃ w, w < 8 ∧ x &&& 7 = nI w := ⟨_, Nat.mod_lt _ (by decide), and_md x (m := 3) (by decide) 7 rfl⟩
theorem bk (hU : U < 7) (hS5 : S < 5) {u k b w : Nat} {tk : Int32} (htk : tk = 3 ∨ tk = 4) (hu : u < U) (hk : k < S) (hb : b + 16 ≤ 128) (hw : w < 8) : ∀ (m i : Nat) (t : CS) (s : RS), Inv U S t (pI s 70 (nI b)) qs T B P 0 → s.1 67 = tk → t.2.2.2.1 1 0 1 = some u → t.2.2.2.1 1 0 2 = some k → s.2.1 43 u &&& 7 = nI w → s.1 70 = nI (b + i) → i ≤ 16 → 16 < i + m → ∃ t2 s2, ul_X1_moveBlockStep_18 U S N m (some u) (some k) (nI w * 128) (nI (b + i)) t = some ((), t2) ∧ l_moves_7 U S N m (nI u) (nI i) s = tailM U S N u s2 ∧ s2.1 70 = nI (b + 16) ∧ s2.1 67 = tk ∧ Inv U S t2 (pI s2 70 (nI b)) qs T B P 0 ∧ t2.2.2.2.1 = t.2.2.2.1 := by
  intro m
  induction m with
  | zero => intro i t s _ _ _ _ _ _ h1 h2; omega
  | succ m ih =>
    intro i t s h h67 hc1 hc2 hac h70 h1 h2
    obtain ⟨H, hQ, hJ⟩ := id h
    have htask : t.1 1 0 0 = tk := (H.2.2.1 (1, 0, 67) (by decide)).trans h67
    have hmv : t.1 1 0 3 = nI b := by
      rcases H.2.2.2.2.2.2.1 with ⟨z, _⟩ | ⟨a0, u2, k2, _, _, a1, a2, a3, a4, a5⟩
      · exfalso
        have z' : s.1 67 = 0 := z
        rw [h67] at z'
        rcases htk with q | q <;> rw [q] at z' <;> exact absurd z' (by decide)
      · exact a5
    have hst : s.2.1 42 u = 5 ∧ t.2.2.2.1 10 u 19 = some k := by
      rcases hJ.2.2.2.2.2.2.2 (by decide) u k hc1 hc2 with ⟨d1, _⟩ | ⟨d1, _⟩ | ⟨_, d2, d3, _⟩
      · exfalso
        have z' : s.1 67 = 1 := d1
        rw [h67] at z'
        rcases htk with q | q <;> rw [q] at z' <;> exact absurd z' (by decide)
      · exfalso
        have z' : s.1 67 = 2 := d1
        rw [h67] at z'
        rcases htk with q | q <;> rw [q] at z' <;> exact absurd z' (by decide)
      · exact ⟨d2, d3⟩
    obtain ⟨hslot, hat, hwh, _⟩ := hJ.2.2.1 u hu hst.1
    have hat' : s.2.1 59 u = s.2.1 44 u := hat
    have hwh' : s.2.1 60 u = nI w := hwh.trans hac
    have h41 : s.2.1 41 u = nI k := by
      have := (H.2.2.2.2.1.2.1 u hu).2.1
      rw [hst.2] at this
      exact this
    have hmq : t.1 10 u 12 = s.2.1 44 u := H.1 (12, 44) (by decide) u
    show ∃ t2 s2, uh_X1_moveBlockStep_18 U S N (ul_X1_moveBlockStep_18 U S N m) (some u) (some k) (nI w * 128) (nI (b + i)) t = some ((), t2) ∧ h_moves_7 U S N (l_moves_7 U S N m) (nI u) (nI i) s = tailM U S N u s2 ∧ _
    unfold uh_X1_moveBlockStep_18 u_X1_moveBlockStep_99 u_X1_moveBlockStep_93 h_moves_7
    rw [hmv, show nI b + 16 = nI (b + 16) from nI_add b 16]
    by_cases hi : i = 16
    · subst hi
      rw [if_pos ((leI (by omega) (by omega)).mpr (Nat.le_refl _)), if_pos (show (16 : Int32) ≤ nI 16 from (leI (a := 16) (by decide) (by decide)).mpr (Nat.le_refl _))]
      exact ⟨t, s, rfl, rfl, h70, h67, h, rfl⟩
    · rw [if_neg (fun z => by have := (leI (by omega) (by omega)).mp z; omega), if_neg (show ¬ (128 : Int32) ≤ nI (b + i) from fun z => by have := (leI (a := 128) (by decide) (by omega)).mp z; omega), if_neg (show ¬ (16 : Int32) ≤ nI i from fun z => by have := (leI (a := 16) (by decide) (by omega)).mp z; omega), rA_y (by omega) hu, rA_y (by omega) hu, htask, h67, hat', hwh', h70]
      simp only [Option.bind_some]
      have e1 : nI w * 128 + nI (b + i) = nI (128 * w + (b + i)) := by
        rw [show (128 : Int32) = nI 128 from rfl, show nI w * nI 128 = nI (w * 128) from (Int32.ofNat_mul w 128).symm, nI_add, Nat.mul_comm]
      have e2 : 128 * nI w + nI (b + i) = nI (128 * w + (b + i)) := by
        rw [show (128 : Int32) = nI 128 from rfl, show nI 128 * nI w = nI (128 * w) from (Int32.ofNat_mul 128 w).symm, nI_add]
      obtain ⟨a, ha, ea⟩ := w12_and (s.2.1 44 u + nI (b + i))
      have ea2 : nI a &&& 4095 = nI a := and4095 ha
      rw [hmq, e1, e2, ea, nI_1]
      rcases htk with rfl | rfl
      · rw [if_pos (show ¬ (3 : Int32) = 1 by decide), if_pos (show ¬ (3 : Int32) = 2 by decide)]
        simp only [not_true_eq_false, if_false]
        rw [rH_y (by decide) (by omega), rQ_y (by omega) hu]
        simp only [Option.bind_some]
        rw [rG_y (by decide) (by omega)]
        simp only [Option.bind_some]
        have hv : t.2.1 10 u 2 (128 * w + (b + i)) = s.2.2 37 u (128 * w + (b + i)) := H.2.2.2.1 (10, 2, 37) (by decide) u _
        have hvw : W12 (s.2.2 37 u (128 * w + (b + i))) := hJ.1.2.2.2.2.2.2.2.1 u _
        unfold u_X8_put g_store qZ
        rw [ea2, wH_y (by decide) ha, rA_y (by omega) hu, h41, hv]
        simp only [Option.bind_some, or_true, if_true]
        rw [rQ_y (by omega) hk, w12_id hvw]
        simp only [Option.bind_some]
        rw [wG_y (by decide) ha]
        simp only [Option.bind_some]
        rw [rA_y (by omega) hu, show (pG s 35 k a (s.2.2 37 u (128 * w + (b + i)))).2.1 41 u = nI k from h41]
        simp only [Option.bind_some]
        rw [wZ_y (by omega) hk _ _ (Or.inr rfl)]
        simp only [Option.bind_some]
        unfold g_moves_159
        simp only [Option.bind_some]
        rw [show (pA (pG s 35 k a (s.2.2 37 u (128 * w + (b + i)))) 39 k 1).1 70 = nI (b + i) from h70, nI_1, nI_1]
        have hI : Inv U S (qI (qA t 8 k 1 a (s.2.2 37 u (128 * w + (b + i)))) 8 k 3 1) (pI (pI (pA (pG s 35 k a (s.2.2 37 u (128 * w + (b + i)))) 39 k 1) 70 (nI (b + i + 1))) 70 (nI b)) qs T B P 0 := by
          rw [pI_pI]
          exact ⟨Sim_S (Sim_C H (q := (8, 1, 35)) (by decide) k a _) (q := (3, 39)) (by decide) k 1, hQ, HJ_f39 (HJ_core hJ k a hvw) 1 (HJ_own hJ hu hk hst.2)⟩
        obtain ⟨t2, s2, f1, f2, f3, f4, f5, f6⟩ := ih (i + 1) _ _ hI h67 hc1 hc2 hac rfl (by omega) (by omega)
        exact ⟨t2, s2, f1, f2, f3, f4, f5, f6⟩
      · rw [if_pos (by decide), if_pos (by decide), if_pos (by decide), if_pos (by decide), rQ_y (by omega) hu]
        simp only [Option.bind_some]
        unfold g_load
        rw [rA_y (by omega) hu, h41]
        simp only [Option.bind_some]
        rw [rQ_y (by omega) hk, ea2, rH_y (by decide) ha]
        simp only [Option.bind_some]
        rw [rG_y (by decide) ha]
        simp only [Option.bind_some]
        have hv : t.2.1 8 k 1 a = s.2.2 35 k a := H.2.2.2.1 (8, 1, 35) (by decide) k _
        have hvw : W12 (s.2.2 35 k a) := hJ.1.2.2.2.2.2.1 k _
        rw [hv, wH_y (by decide) (by omega), wG_y (by decide) (by omega)]
        simp only [Option.bind_some]
        unfold g_moves_159
        simp only [Option.bind_some]
        rw [show (pG s 37 u (128 * w + (b + i)) (s.2.2 35 k a)).1 70 = nI (b + i) from h70, nI_1, nI_1]
        have hI : Inv U S (qA t 10 u 2 (128 * w + (b + i)) (s.2.2 35 k a)) (pI (pI (pG s 37 u (128 * w + (b + i)) (s.2.2 35 k a)) 70 (nI (b + i + 1))) 70 (nI b)) qs T B P 0 := by
          rw [pI_pI]
          exact ⟨Sim_C H (q := (10, 2, 37)) (by decide) u _ _, hQ, HJ_file hJ u _ hvw⟩
        obtain ⟨t2, s2, f1, f2, f3, f4, f5, f6⟩ := ih (i + 1) _ _ hI h67 hc1 hc2 hac rfl (by omega) (by omega)
        exact ⟨t2, s2, f1, f2, f3, f4, f5, f6⟩
/-- sixteen words: both sides, and whether that were the last -/
theorem al_mv (hU : U < 7) (hS5 : S < 5) (hN : 100 < N) (h : Inv U S t s qs T B P 0) (h67 : s.1 67 ≠ 0) : ∃ t1 s1 u k, ∃ d : Bool, u_X1_advance U S N t = some (if d then 1 else 0, t1) ∧ g_moves U S N s = (if d then (g_ends U S N (nI u) s1).bind (fun q => some ((), q.2)) else some ((), s1)) ∧ (u < U ∧ k < S) ∧ t1.2.2.2.1 1 0 1 = some u ∧ t1.2.2.2.1 1 0 2 = some k ∧ s1.1 69 = nI k ∧ s1.1 67 ≠ 0 ∧ Inv U S t1 s1 qs T B P 1 ∧ (d = false → Inv U S t1 s1 qs T B P 0) := by
  obtain ⟨H, hQ, hJ⟩ := id h
  rcases H.2.2.2.2.2.2.1 with ⟨z, _⟩ | ⟨a0, u, k, hu, hk, a1, a2, a3, a4, a5⟩
  · exact absurd z h67
  have htask : t.1 1 0 0 = s.1 67 := H.2.2.1 (1, 0, 67) (by decide)
  unfold g_moves
  rw [a2]
  have tl : ∀ (s2 : RS) (lim : Nat), lim < 2 ^ 31 → (s2.1 67 = 1 ∨ s2.1 67 = 2 → lim = 4096) → (s2.1 67 = 3 ∨ s2.1 67 = 4 → lim = 128) → (s2.1 67 = 1 ∨ s2.1 67 = 2 ∨ s2.1 67 = 3 ∨ s2.1 67 = 4) → ∀ b, b < 2 ^ 30 → s2.1 70 = nI b → tailM U S N u s2 = (if decide (lim = b) then (g_ends U S N (nI u) s2).bind (fun q => some ((), q.2)) else some ((), s2)) := by
    intro s2 lim hl h1 h2 h3 b hb h70
    have g : ∀ L : Nat, L < 2 ^ 31 → g_moves_196 U S N (nI u) (nI b) (nI L) s2 = (if decide (L = b) then (g_ends U S N (nI u) s2).bind (fun q => some ((), q.2)) else some ((), s2)) := by
      intro L hL
      unfold g_moves_196 g_moves_204
      by_cases e : L = b
      · subst e
        rw [if_neg (not_not_intro rfl), decide_eq_true rfl]
        rfl
      · rw [if_pos (fun z => e ((eqI (by omega) hL).mp z).symm), decide_eq_false e]
        rfl
    unfold tailM
    rw [h70]
    rcases h3 with z | z | z | z
    · rw [z, if_neg (by decide), h1 (Or.inl z)]; exact g 4096 (by decide)
    · rw [z, if_neg (by decide), h1 (Or.inr z)]; exact g 4096 (by decide)
    · rw [z, if_pos (by decide), h2 (Or.inl z)]; exact g 128 (by decide)
    · rw [z, if_pos (by decide), h2 (Or.inr z)]; exact g 128 (by decide)
  have lt_d : ∀ (b L : Nat), b < 2 ^ 30 → L < 2 ^ 30 → b ≤ L → ∀ t2 : CS, (if nI b < nI L then cZ 0 t2 else cZ 1 t2) = some (if decide (L = b) then 1 else 0, t2) := by
    intro b L hb hL hle t2
    by_cases e : L = b
    · rw [if_neg (fun z => by have := (ltI (by omega) (by omega)).mp z; omega), decide_eq_true e]; rfl
    · rw [if_pos ((ltI (by omega) (by omega)).mpr (by omega)), decide_eq_false e]; rfl
  unfold u_X1_advance u_X1_advance_86 u_X1_advance_117 u_X1_advance_126 u_X1_advance_134
  rw [a1, a3]
  simp only [vl_y hu, vl_y hk, Option.bind_some, reduceCtorEq, if_false, not_false_eq_true, if_true]
  rcases hJ.2.2.2.2.2.2.2 (by decide) u k a1 a3 with ⟨d1, d2, d3, d4, m, hm, h70⟩ | ⟨d1, d2, d3, m, hm, h70⟩ | ⟨d1, d2, d3, m, hm, h70⟩
  · -- OUT
    have hb : 16 * m + 16 ≤ 4096 := by omega
    have hmv : t.1 1 0 3 = nI (16 * m) := a5.trans h70
    rw [htask, d1, if_neg (not_not_intro rfl)]
    unfold u_X1_copyStep u_X1_copyStep_35
    rw [hmv, if_neg (nI_nn (by omega)), show nI (16 * m) + 16 = nI (16 * m + 16) from nI_add _ 16, if_neg (show ¬ (4096 : Int32) < nI (16 * m + 16) from fun z => by have := (ltI (a := 4096) (by decide) (by omega)).mp z; omega)]
    rw [show cpH t (lnK lnT (8, k, 1).1 ((8, k, 1).2.2 + 1)) (t.2.1 (8, k, 1).1 (8, k, 1).2.1 (8, k, 1).2.2) (nI (16 * m)) (lnK lnT (10, u, 1).1 ((10, u, 1).2.2 + 1)) (10, u, 1).1 (10, u, 1).2.1 (10, u, 1).2.2 (nI (16 * m)) 16 = some (qF t 10 u 1 (seg (t.2.1 10 u 1) (t.2.1 8 k 1) (16 * m) (16 * m + 16))) from cpH_y t (t.2.1 8 k 1) 10 u 1 hb]
    simp only [Option.bind_some]
    have hdr : t.2.1 10 u 1 = s.2.2 36 u := funext fun p => H.2.2.2.1 (10, 1, 36) (by decide) u p
    have hco : t.2.1 8 k 1 = s.2.2 35 k := funext fun p => H.2.2.2.1 (8, 1, 35) (by decide) k p
    rw [hdr, hco]
    have f1 : (qF t 10 u 1 (seg (s.2.2 36 u) (s.2.2 35 k) (16 * m) (16 * m + 16))).1 1 0 3 = nI (16 * m) := hmv
    rw [f1, show nI (16 * m) + 16 = nI (16 * m + 16) from nI_add _ 16]
    have f2 : (qI (qF t 10 u 1 (seg (s.2.2 36 u) (s.2.2 35 k) (16 * m) (16 * m + 16))) 1 0 3 (nI (16 * m + 16))).1 1 0 0 = 1 := htask.trans d1
    have f3 : (qI (qF t 10 u 1 (seg (s.2.2 36 u) (s.2.2 35 k) (16 * m) (16 * m + 16))) 1 0 3 (nI (16 * m + 16))).1 1 0 3 = nI (16 * m + 16) := rfl
    rw [f2, f3, if_pos rfl]
    rw [show (0 : Int32) = nI 0 from rfl] 
    rw [mv_out hU hS5 hu hk hb N 0 s d1 a4 h70 (by omega) (by omega)]
    rw [show (nI 0 : Int32) = 0 from rfl]
    rw [tl (pI (sG s 36 u (seg (s.2.2 36 u) (s.2.2 35 k) (16 * m + 0) (16 * m + 16))) 70 (nI (16 * m + 16))) 4096 (by decide) (fun _ => rfl) (fun z => by exfalso; have z' : s.1 67 = 3 ∨ s.1 67 = 4 := z; rw [d1] at z'; rcases z' with q | q <;> exact absurd q (by decide)) (Or.inl d1) (16 * m + 16) (by omega) rfl]
    have hI : ∀ D2, m + 1 < 256 + D2 → Inv U S (qI (qF t 10 u 1 (seg (s.2.2 36 u) (s.2.2 35 k) (16 * m) (16 * m + 16))) 1 0 3 (nI (16 * m + 16))) (pI (sG s 36 u (seg (s.2.2 36 u) (s.2.2 35 k) (16 * m + 0) (16 * m + 16))) 70 (nI (16 * m + 16))) qs T B P D2 := by
      intro D2 hD2
      refine ⟨Sim_mv (Sim_F H (q := (10, 1, 36)) (by decide) u _) h67 _, hQ, ?_⟩
      have := HJ_mv (HJ_dF hJ u (seg_all (hJ.1.2.2.2.2.2.2.1 u) (hJ.1.2.2.2.2.2.1 k) (16 * m) (16 * m + 16))) (m := m) (D2 := D2) (fun _ => hD2) (fun z => by exfalso; have z' : s.1 67 = 3 ∨ s.1 67 = 4 := z; rw [d1] at z'; rcases z' with q | q <;> exact absurd q (by decide))
      rw [show 16 * (m + 1) = 16 * m + 16 by omega] at this
      exact this
    refine ⟨_, _, u, k, decide (4096 = 16 * m + 16), lt_d (16 * m + 16) 4096 (by omega) (by decide) (by omega) _, rfl, ⟨hu, hk⟩, a1, a3, a4, h67, hI 1 (by omega), fun z => hI 0 ?_⟩
    have := of_decide_eq_false z
    omega
  · -- IN
    have hb : 16 * m + 16 ≤ 4096 := by omega
    have hmv : t.1 1 0 3 = nI (16 * m) := a5.trans h70
    rw [htask, d1, if_pos (by decide), if_neg (not_not_intro rfl)]
    unfold u_X1_copyStep u_X1_copyStep_35
    rw [hmv, if_neg (nI_nn (by omega)), show nI (16 * m) + 16 = nI (16 * m + 16) from nI_add _ 16, if_neg (show ¬ (4096 : Int32) < nI (16 * m + 16) from fun z => by have := (ltI (a := 4096) (by decide) (by omega)).mp z; omega)]
    rw [show cpH t (lnK lnT (10, u, 1).1 ((10, u, 1).2.2 + 1)) (t.2.1 (10, u, 1).1 (10, u, 1).2.1 (10, u, 1).2.2) (nI (16 * m)) (lnK lnT (8, k, 1).1 ((8, k, 1).2.2 + 1)) (8, k, 1).1 (8, k, 1).2.1 (8, k, 1).2.2 (nI (16 * m)) 16 = some (qF t 8 k 1 (seg (t.2.1 8 k 1) (t.2.1 10 u 1) (16 * m) (16 * m + 16))) from cpH_y t (t.2.1 10 u 1) 8 k 1 hb]
    simp only [Option.bind_some]
    have hdr : t.2.1 10 u 1 = s.2.2 36 u := funext fun p => H.2.2.2.1 (10, 1, 36) (by decide) u p
    have hco : t.2.1 8 k 1 = s.2.2 35 k := funext fun p => H.2.2.2.1 (8, 1, 35) (by decide) k p
    rw [hdr, hco]
    have f1 : (qF t 8 k 1 (seg (s.2.2 35 k) (s.2.2 36 u) (16 * m) (16 * m + 16))).1 1 0 3 = nI (16 * m) := hmv
    rw [f1, show nI (16 * m) + 16 = nI (16 * m + 16) from nI_add _ 16]
    have f2 : (qI (qF t 8 k 1 (seg (s.2.2 35 k) (s.2.2 36 u) (16 * m) (16 * m + 16))) 1 0 3 (nI (16 * m + 16))).1 1 0 0 = 2 := htask.trans d1
    have f3 : (qI (qF t 8 k 1 (seg (s.2.2 35 k) (s.2.2 36 u) (16 * m) (16 * m + 16))) 1 0 3 (nI (16 * m + 16))).1 1 0 3 = nI (16 * m + 16) := rfl
    rw [f2, f3, if_neg (by decide), if_neg (not_not_intro rfl)]
    rw [show (0 : Int32) = nI 0 from rfl]
    rw [mv_in hU hS5 hu hk hb N 0 s d1 a4 h70 (by omega) (by omega)]
    rw [show (nI 0 : Int32) = 0 from rfl]
    rw [tl (pI (sG s 35 k (seg (s.2.2 35 k) (s.2.2 36 u) (16 * m + 0) (16 * m + 16))) 70 (nI (16 * m + 16))) 4096 (by decide) (fun _ => rfl) (fun z => by exfalso; have z' : s.1 67 = 3 ∨ s.1 67 = 4 := z; rw [d1] at z'; rcases z' with q | q <;> exact absurd q (by decide)) (Or.inr (Or.inl d1)) (16 * m + 16) (by omega) rfl]
    have hI : ∀ D2, m + 1 < 256 + D2 → Inv U S (qI (qF t 8 k 1 (seg (s.2.2 35 k) (s.2.2 36 u) (16 * m) (16 * m + 16))) 1 0 3 (nI (16 * m + 16))) (pI (sG s 35 k (seg (s.2.2 35 k) (s.2.2 36 u) (16 * m + 0) (16 * m + 16))) 70 (nI (16 * m + 16))) qs T B P D2 := by
      intro D2 hD2
      refine ⟨Sim_mv (Sim_F H (q := (8, 1, 35)) (by decide) k _) h67 _, hQ, ?_⟩
      have := HJ_mv (HJ_cF hJ k (seg_all (hJ.1.2.2.2.2.2.1 k) (hJ.1.2.2.2.2.2.2.1 u) (16 * m) (16 * m + 16))) (m := m) (D2 := D2) (fun _ => hD2) (fun z => by exfalso; have z' : s.1 67 = 3 ∨ s.1 67 = 4 := z; rw [d1] at z'; rcases z' with q | q <;> exact absurd q (by decide))
      rw [show 16 * (m + 1) = 16 * m + 16 by omega] at this
      exact this
    refine ⟨_, _, u, k, decide (4096 = 16 * m + 16), lt_d (16 * m + 16) 4096 (by omega) (by decide) (by omega) _, rfl, ⟨hu, hk⟩, a1, a3, a4, h67, hI 1 (by omega), fun z => hI 0 ?_⟩
    have := of_decide_eq_false z
    omega
  · -- a block
    have hb : 16 * m + 16 ≤ 128 := by omega
    have hmv : t.1 1 0 3 = nI (16 * m) := a5.trans h70
    have n1 : ¬ s.1 67 = 1 := by rcases d1 with q | q <;> rw [q] <;> decide
    have n2 : ¬ s.1 67 = 2 := by rcases d1 with q | q <;> rw [q] <;> decide
    obtain ⟨w, hw, hac⟩ := and7 (s.2.1 43 u)
    rw [htask, if_pos n1, if_pos n2]
    unfold u_X1_moveBlockStep
    simp only [Option.bind_some]
    rw [show t.1 10 u 10 = s.2.1 43 u from H.1 (10, 43) (by decide) u, hac, hmv]
    have h' : Inv U S t (pI s 70 (nI (16 * m))) qs T B P 0 := by rw [pI_id s h70]; exact h
    obtain ⟨t2, s2, f1, f2, f3, f4, f5, f6⟩ := bk (N := N) hU hS5 d1 hu hk hb hw N 0 t s h' rfl a1 a3 hac h70 (by omega) (by omega)
    rw [show nI (16 * m) = nI (16 * m + 0) from rfl, f1]
    rw [show (0 : Int32) = nI 0 from rfl, f2]
    rw [show (nI 0 : Int32) = 0 from rfl]
    simp only [Option.bind_some]
    have g67 : (pI s2 70 (nI (16 * m))).1 67 ≠ 0 := by show s2.1 67 ≠ 0; rw [f4]; exact h67
    have gmv : t2.1 1 0 3 = nI (16 * m) := by
      rcases f5.1.2.2.2.2.2.2.1 with ⟨z, _⟩ | ⟨_, _, _, _, _, _, _, _, _, z⟩
      · exact absurd z g67
      · exact z
    have gt : t2.1 1 0 0 = s.1 67 := (f5.1.2.2.1 (1, 0, 67) (by decide)).trans f4
    have g69 : s2.1 69 = nI k := by
      rcases f5.1.2.2.2.2.2.2.1 with ⟨z, _⟩ | ⟨_, u2, k2, _, _, _, _, z1, z2, _⟩
      · exact absurd z g67
      · rw [f6, a3] at z1
        rw [Option.some.inj z1]
        exact z2
    rw [gmv, show nI (16 * m) + 16 = nI (16 * m + 16) from nI_add _ 16]
    have f2' : (qI t2 1 0 3 (nI (16 * m + 16))).1 1 0 0 = s.1 67 := gt
    have f3' : (qI t2 1 0 3 (nI (16 * m + 16))).1 1 0 3 = nI (16 * m + 16) := rfl
    rw [f2', f3', if_neg n1, if_pos n2]
    rw [tl s2 128 (by decide) (fun z => by exfalso; rw [f4] at z; rcases z with q | q; exact n1 q; exact n2 q) (fun _ => rfl) (by rw [f4]; rcases d1 with q | q; exact Or.inr (Or.inr (Or.inl q)); exact Or.inr (Or.inr (Or.inr q))) (16 * m + 16) (by omega) f3]
    have hI : ∀ D2, m + 1 < 8 + D2 → Inv U S (qI t2 1 0 3 (nI (16 * m + 16))) s2 qs T B P D2 := by
      intro D2 hD2
      have e : pI (pI s2 70 (nI (16 * m))) 70 (nI (16 * m + 16)) = s2 := by rw [pI_pI, pI_id s2 f3]
      have k1 := Sim_mv f5.1 g67 (nI (16 * m + 16))
      rw [e] at k1
      have k2 := HJ_mv f5.2.2 (m := m) (D2 := D2) (fun z => by exfalso; have z' : s2.1 67 = 1 ∨ s2.1 67 = 2 := z; rw [f4] at z'; rcases z' with q | q; exact n1 q; exact n2 q) (fun _ => hD2)
      rw [show 16 * (m + 1) = 16 * m + 16 by omega, e] at k2
      exact ⟨k1, f5.2.1, k2⟩
    refine ⟨_, s2, u, k, decide (128 = 16 * m + 16), lt_d (16 * m + 16) 128 (by omega) (by decide) (by omega) _, rfl, ⟨hu, hk⟩, by rw [← a1]; exact congrFun (congrFun (congrFun f6 1) 0) 1, by rw [← a3]; exact congrFun (congrFun (congrFun f6 1) 0) 2, g69, by rw [f4]; exact h67, hI 1 (by omega), fun z => hI 0 ?_⟩
    have := of_decide_eq_false z
    omega
end
