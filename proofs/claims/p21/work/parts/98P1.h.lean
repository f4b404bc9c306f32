/-! LAYER 3, assemble: one pass from its start -/
def pst (x : Int32) (t : CS) : CS := qI (qI (qI (qI (qI t 0 0 6 x) 0 0 7 0) 0 0 8 0) 0 0 9 0) 0 0 10 128
def psr (x : Int32) (s : RS) : RS := pI (pI (pI (pI (pI s 9 x) 10 8) 11 128) 28 0) 4 0
section
variable {U S N n c m T i p a : Nat} {b : Nat → Int32} {P ν : Nat → Nat} {t : CS} {s : RS} {x : Int32}
theorem over_c (hx : x = 0 ∨ x = 1) : u_X0_passOver U S N x t = ul_X0_passOver_29 U S N N (nI 0) (pst x t) := by
  unfold u_X0_passOver qZ
  rw [if_pos hx, Option.bind_some, if_pos (Or.inl rfl), Option.bind_some, if_pos (Or.inl rfl), Option.bind_some, Option.bind_some, Option.bind_some]
  rfl
theorem pass_r (hx : x = 0 ∨ x = 1) : g_pass U S N x s = l_pass_28 U S N N (psr x s) := by
  unfold g_pass pZ
  rw [if_pos hx, Option.bind_some, Option.bind_some, Option.bind_some, if_pos (Or.inl rfl), Option.bind_some, Option.bind_some]
  rfl
theorem CA_pst (h : CA t) (x : Int32) : CA (pst x t) := h
theorem ps_eq (hN : 5000 < N) (hx : x = 0 ∨ x = 1) (hn : n ≤ 2000) (hB : ∀ i, i < n → ∃ j, j < 256 ∧ b i = nI j) (hTB : TB b n t P c m) (hNC : NC t m) (hRN : RN t s m T ν) (h3 : s.1 3 = nI n) (hb2 : ∀ i, i < n → s.2.1 2 i = b i) (hCA : CA t) (hi2 : i < 2) (hi : t.2.2.2.1 0 0 3 = some i) (hcn : t.1 7 i 1 = nI (cn (t.2.1 7 i 0) 4096)) (h29 : s.1 29 = 0) (h5 : s.1 5 = 0) (h4 : t.1 0 0 4 = 0) (hR : RSh (t.2.1 7 i 0) s) (hPH : PH U S N m 0 (pst x t)) : ∃ t2 s2, u_X0_passOver U S N x t = some ((), t2) ∧ g_pass U S N x s = some ((), s2) ∧ FIN b n P c m i s t2 s2 := by
  rw [over_c hx, pass_r hx]
  have hJ : JS b n P c m T ν i (pst x t) (psr x s) := by
    refine ⟨⟨hn, hB, hTB, hNC, ?_, ⟨h3, hb2⟩, rfl, rfl, rfl, CA_pst hCA x⟩, hi2, hi, hcn, ⟨128, by decide, rfl⟩, h29, rfl, rfl, Or.inl h5, Or.inl rfl, hx, RSh_s hR ⟨rfl, rfl, rfl, rfl⟩⟩
    exact RN_s hRN rfl rfl rfl rfl rfl
  have hE := hJ.1
  obtain ⟨-, -, ec, hc0, hc, hP0, hTT, -⟩ := id hTB
  obtain ⟨st, m1, m2, m3, m4, m5⟩ := hTT 0 hc0
  obtain ⟨sc, w5, w6, w7⟩ := look_at (U := U) (S := S) (s := psr x s) (t := pst x t) hN hE (Or.inl h5) hc0 (show (0 : Int32) = nI (P 0) by rw [hP0]; rfl) m1 m2 m3 m4 m5
  have sf0 : SF s (psr x s) := SF_I (SF_I (SF_I (SF_I (SF_I (SF_0 s) (by decide) _) (by decide) _) (by decide) _) (by decide) _) (by decide) _
  obtain ⟨M, hM⟩ : ∃ M, N = M + 1 := ⟨N - 1, by omega⟩
  have er : l_pass_28 U S N N (psr x s) = (l_line_6 U S N N 1 sc).bind fun q => cnt U S N M q.2 := by
    have e0 : l_pass_28 U S N N (psr x s) = h_pass_28 U S N (l_pass_28 U S N M) (psr x s) := by
      conv => lhs; rw [show l_pass_28 U S N N = l_pass_28 U S N (M + 1) by rw [hM]]
      rfl
    rw [e0]
    unfold h_pass_28 g_line
    rw [if_neg (show ¬ ¬ (psr x s).1 5 = 0 from not_not_intro h5), if_neg (show ¬ ¬ (psr x s).1 28 = 0 from not_not_intro rfl), if_neg (show ¬ (psr x s).1 3 < (psr x s).1 4 from fun z => by
      have z' : s.1 3 < 0 := z
      rw [h3] at z'
      exact nI_nn (by omega) z'), w5, Option.bind_some]
    rfl
  rw [er]
  obtain ⟨z5, -, z7, -, z9⟩ := w6
  have sfc := SF_t sf0 (SF_SL z5)
  rcases z9 h5 with ⟨u1, u2, -⟩ | ⟨u1, u2, u3⟩
  · have hf5 : ¬ sc.1 5 = 0 := by rw [u2]; decide
    have el6 : l_line_6 U S N N 1 sc = some ((), sc) := by
      have := l6_f (U := U) (S := S) (N := N) (g := M) (x := 1) hf5
      rw [← hM] at this
      exact this
    rw [el6, Option.bind_some]
    dsimp only
    obtain ⟨M2, hM2⟩ : ∃ M2, M = M2 + 1 := ⟨M - 1, by omega⟩
    have ec : cnt U S N M sc = some ((), pI sc 4 (sc.1 4 + 1)) := by
      have := cnt_x (U := U) (S := S) (N := N) (h := M2) (s := sc) (Or.inl hf5)
      rw [← hM2] at this
      exact this
    rw [ec]
    obtain ⟨t2, q1, q2⟩ := ov_6 (U := U) (S := S) (N := N) (t := pst x t) (f := N - 2) (j := 0) (c := c) hN (CA_pst hCA x) hTB.2.2.1 hc (by omega) h4 rfl u1
    rw [show N - 2 + 2 = N by omega] at q1
    exact ⟨t2, _, q1, rfl, FIN_f z7 sfc q2 hf5 _⟩
  · obtain ⟨t2, s2, q1, q2, q3, q4, q5⟩ := pl (U := U) (S := S) (i := i) hN N N M 0 0 T ν (pst x t) sc (JS_SL hJ z5 z7) u3 h4 u2 rfl (by omega) (by omega) (by omega) (by omega) hPH
    exact ⟨t2, s2, q1, q2, q3, SF_t sfc q4, q5⟩
/-- the words made -/
theorem mk_lit : ∀ h, h < 64 → ∀ l, l < 64 → mk (nI (4096 + (64 * h + l))) = nI (64 * h + l) := by decide +kernel
theorem mk_l {v : Nat} (hv : v < 4096) : mk (nI (4096 + v)) = nI v := by
  have := mk_lit (v / 64) (by omega) (v % 64) (by omega)
  rw [show 64 * (v / 64) + v % 64 = v by omega] at this
  exact this
theorem mk_w {y : Int32} (h : W12 y) : mk y = y := by
  have h2 := w12_id h
  obtain ⟨k, hk, rfl⟩ := h
  unfold mk
  rw [if_neg (nI_ne (by omega))]
  exact h2
theorem as_cp (X : Nat → Int32) : ∀ (f k : Nat) (s : RS), (∀ p, p < 4096 → (if ¬ s.2.1 23 p = 0 then s.2.1 22 p else if s.2.1 24 p = 0 then -1 else s.2.1 22 p) = mk (X p)) → (∀ p, p < 4096 → (mk (X p) = -1 ↔ X p = -1)) → 4096 < k + f → k ≤ 4096 → ∃ s2, l_assemble_166 U S N f (nI (cn X k)) (nI k) s = some (nI (cn X 4096), s2) ∧ s2.1 = s.1 ∧ s2.2.2 = s.2.2 ∧ (∀ r, r ≠ 25 → s2.2.1 r = s.2.1 r) ∧ (∀ p, k ≤ p → p < 4096 → s2.2.1 25 p = mk (X p)) ∧ (∀ p, p < k → s2.2.1 25 p = s.2.1 25 p) := by
  intro f
  induction f with
  | zero => intro k s _ _ h1 h2; omega
  | succ f ih =>
    intro k s hX hX2 h1 h2
    show ∃ s2, h_assemble_166 U S N (l_assemble_166 U S N f) (nI (cn X k)) (nI k) s = _ ∧ _
    by_cases hk : k = 4096
    · subst hk
      unfold h_assemble_166
      rw [if_pos (show (4096 : Int32) ≤ nI 4096 from (leI (a := 4096) (by decide) (by decide)).mpr (Nat.le_refl _))]
      exact ⟨s, rfl, rfl, rfl, fun _ _ => rfl, fun p p1 p2 => by omega, fun _ _ => rfl⟩
    · have hlt : k < 4096 := by omega
      have e206 : ∀ v : Int32, v = mk (X k) → g_assemble_206 U S N (l_assemble_166 U S N f) (nI (cn X k)) (nI k) (nI k) v s = l_assemble_166 U S N f (nI (cn X (k + 1))) (nI (k + 1)) (pA s 25 k v) := by
        intro v hv
        unfold g_assemble_206 g_assemble_223
        have e25 : (pA s 25 k v).2.1 25 k = v := by
          show up1 s.2.1 25 (upd (s.2.1 25) k v) 25 k = v
          rw [up1_s, upd_y]
        rw [wA_y (by decide) hlt, Option.bind_some, rA_y (by decide) hlt, e25, Option.bind_some]
        have ecn : cn X (k + 1) = cn X k + (if X k = -1 then 0 else 1) := rfl
        by_cases cv : v = -1
        · rw [if_neg (not_not_intro cv), ecn, if_pos ((hX2 k hlt).mp (by rw [← hv]; exact cv)), show nI (cn X k) + (0 : Int32) = nI (cn X k + 0) from nI_add _ 0, nI_1]
        · rw [if_pos cv, ecn, if_neg (fun z => cv (by rw [hv]; exact (hX2 k hlt).mpr z)), nI_1, nI_1]
      have eH : h_assemble_166 U S N (l_assemble_166 U S N f) (nI (cn X k)) (nI k) s = l_assemble_166 U S N f (nI (cn X (k + 1))) (nI (k + 1)) (pA s 25 k (mk (X k))) := by
        have hv := hX k hlt
        unfold h_assemble_166 g_assemble_196
        rw [if_neg (show ¬ (4096 : Int32) ≤ nI k from fun z => by have := (leI (a := 4096) (by decide) (by omega)).mp z; omega), rA_y (by decide) hlt, Option.bind_some, rA_y (by decide) hlt, Option.bind_some, rA_y (by decide) hlt, Option.bind_some]
        by_cases c23 : s.2.1 23 k = 0
        · rw [if_neg (not_not_intro c23)] at hv ⊢
          by_cases c24 : s.2.1 24 k = 0
          · rw [if_pos c24] at hv ⊢
            rw [e206 _ hv, hv]
          · rw [if_neg c24] at hv ⊢
            rw [e206 _ hv, hv]
        · rw [if_pos c23] at hv ⊢
          rw [e206 _ hv, hv]
      rw [eH]
      obtain ⟨s2, q1, q2, q3, q4, q5, q6⟩ := ih (k + 1) (pA s 25 k (mk (X k))) hX hX2 (by omega) (by omega)
      refine ⟨s2, q1, q2, q3, fun r hr => ?_, fun p p1 p2 => ?_, fun p p1 => ?_⟩
      · rw [q4 r hr]
        show up1 s.2.1 25 _ r = _
        rw [up1_n _ _ hr]
      · by_cases e : p = k
        · rw [e, q6 k (by omega)]
          show up1 s.2.1 25 (upd (s.2.1 25) k (mk (X k))) 25 k = _
          rw [up1_s, upd_y]
        · exact q5 p (by omega) p2
      · rw [q6 p (by omega)]
        show up1 s.2.1 25 (upd (s.2.1 25) k (mk (X k))) 25 p = _
        rw [up1_s, upd_n _ _ (by omega)]
theorem RSh_mk {X : Nat → Int32} (h : RSh X s) : (∀ p, p < 4096 → (if ¬ s.2.1 23 p = 0 then s.2.1 22 p else if s.2.1 24 p = 0 then -1 else s.2.1 22 p) = mk (X p)) ∧ (∀ p, p < 4096 → (mk (X p) = -1 ↔ X p = -1)) := by
  have key : ∀ p, p < 4096 → (if ¬ s.2.1 23 p = 0 then s.2.1 22 p else if s.2.1 24 p = 0 then -1 else s.2.1 22 p) = mk (X p) ∧ (mk (X p) = -1 ↔ X p = -1) := by
    intro p hp
    obtain ⟨h1, h2, h3, h4, h5⟩ := h.1 p hp
    rcases h2 with h2 | h2
    · rcases h1 with h1 | h1
      · rw [h5 h2 h1, if_neg (not_not_intro h1), if_pos h2]
        exact ⟨rfl, fun _ => rfl, fun _ => rfl⟩
      · obtain ⟨k1, k2⟩ := h4 h2 h1
        rw [if_pos (by rw [h1]; decide), k2, mk_w k1]
        refine ⟨rfl, fun z => z, fun z => z⟩
    · obtain ⟨v, hv, k1, k2⟩ := h3 h2
      rw [k2, mk_l hv, k1, if_neg (show ¬ s.2.1 24 p = 0 by rw [h2]; decide), ite_self]
      exact ⟨rfl, fun z => absurd z (nI_ne (by omega)), fun z => absurd z (nI_ne (by omega))⟩
  exact ⟨fun p hp => (key p hp).1, fun p hp => (key p hp).2⟩
end
