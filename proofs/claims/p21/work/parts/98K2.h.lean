/-! LAYER 3, words: an item, side by side -/
/-- what an item that begins at token a leaves -/
def IT (b : Nat → Int32) (n : Nat) (P : Nat → Nat) (c m T : Nat) (ν : Nat → Nat) (i p a : Nat) (t : CS) (s : RS) (x y : Int32) (t2 : CS) (s2 : RS) : Prop := FZ s2 ∧ SF s s2 ∧ ((¬ t2.1 0 0 4 = 0 ∧ ¬ s2.1 5 = 0) ∨ (t2.1 0 0 4 = 0 ∧ ¬ s2.1 5 = 0 ∧ kA t2 (t2.1 0 0 9) = 6 ∧ SR t t2) ∨ (t2.1 0 0 4 = 0 ∧ s2.1 5 = 0 ∧ x = y ∧ W12 x ∧ SR t t2 ∧ s2.1 30 = (if lS (kA t (nI a)) = 0 then aln t 0 a else -1) ∧ ∃ a2, a < a2 ∧ t2.1 0 0 9 = nI a2 ∧ JW b n P c m T ν i p t2 s2 ∧ LA b n P c m t2 s2 a2 ∧ (lS (kA t (nI a)) = 0 → ∃ r, rv t 0 a = some r ∧ r.2 = a2)))
section
variable {U S N n c m T i p a : Nat} {b : Nat → Int32} {P ν : Nat → Nat} {t : CS} {s : RS}
theorem upd_c (f : Nat → Int32) {u v : Nat} (x y : Int32) (h : ¬ u = v) : upd (upd f u x) v y = upd (upd f v y) u x := by
  funext j
  by_cases e1 : j = u
  · subst e1
    rw [upd_n _ _ h, upd_y, upd_y]
  · by_cases e2 : j = v
    · subst e2
      rw [upd_y, upd_n _ _ e1, upd_y]
    · rw [upd_n _ _ e2, upd_n _ _ e1, upd_n _ _ e1, upd_n _ _ e2]
theorem upd_u (f : Nat → Int32) (u : Nat) (x y : Int32) : upd (upd f u x) u y = upd f u y := by
  funext j
  by_cases e1 : j = u
  · subst e1
    rw [upd_y, upd_y]
  · rw [upd_n _ _ e1, upd_n _ _ e1, upd_n _ _ e1]
theorem JW_SL (h : JW b n P c m T ν i p t s) {s2 : RS} (g : SL s s2) (hf : FZ s2) (x : Int32) : JW b n P c m T ν i p (qI t 0 0 9 x) s2 := by
  obtain ⟨hE, h2, h3, h4, h5, h6, h7, h8, h9, h10, h11, h12⟩ := h
  obtain ⟨e1, e2, e3, e4, e5, e6, e7, e8, e9, e10⟩ := EX_SL hE g
  refine ⟨⟨e1, e2, e3, e4, e5, e6, e7, e8, e9, CA_9 e10 x⟩, h2, h3, h4, h5, h6, (g.1 29 (by decide)).trans h7, (g.1 28 (by decide)).trans h8, h9, hf, h11, ?_⟩
  have es : s2.2.1 = s.2.1 := by rw [g.2]
  rcases h12 with ⟨k1, k2⟩ | ⟨k1, X0, k2, k3, k4⟩
  · exact Or.inl ⟨k1, RSh_s k2 (by rw [es]; exact ⟨rfl, rfl, rfl, rfl⟩)⟩
  · exact Or.inr ⟨k1, X0, RSh_s k2 (by rw [es]; exact ⟨rfl, rfl, rfl, rfl⟩), k3, by rw [es]; exact k4⟩
/-- a literal's place, side by side -/
theorem lf_eq (hN : 5000 < N) (h : JW b n P c m T ν i p t s) (h4 : t.1 0 0 4 = 0) (h5 : s.1 5 = 0) {k v : Nat} (hk : k < 32) (hv : v < 4096) (z wh : Int32) : ∃ x y t2 s2, u_X0_literalFor U S N (nI (128 * k)) (nI v) z t = some (x, t2) ∧ (if s.1 9 = 0 then some (0, s) else g_literalFor U S N (nI v) (nI k) wh s) = some (y, s2) ∧ FZ s2 ∧ SF s s2 ∧ ((¬ t2.1 0 0 4 = 0 ∧ ¬ s2.1 5 = 0) ∨ (t2.1 0 0 4 = 0 ∧ s2.1 5 = 0 ∧ x = y ∧ W12 x ∧ SR t t2 ∧ t2.1 0 0 9 = t.1 0 0 9 ∧ s2.1 = s.1 ∧ JW b n P c m T ν i p t2 s2)) := by
  obtain ⟨hE, hi2, hi, hcn, hp, h10, h29, h28, h7, hf, h8, h12⟩ := id h
  obtain ⟨e1, e2, e3, e4, e5, e6, e7, e8, e9, e10⟩ := id hE
  unfold u_X0_literalFor u_X0_literalFor_14
  rw [if_neg (not_not_intro h4), e9]
  rcases h12 with ⟨k1, k2⟩ | ⟨k1, X0, k2, k3, k4⟩
  · rw [if_neg (not_not_intro k1), if_pos k1]
    exact ⟨0, 0, t, s, rfl, rfl, hf, SF_0 s, Or.inr ⟨h4, h5, rfl, w12_0, SR_0 t, rfl, rfl, h⟩⟩
  · have k1' : ¬ t.1 0 0 6 = 0 := by rw [k1]; decide
    rw [if_pos k1', if_neg k1', hi, vl_y hi2, Option.bind_some, Option.bind_some]
    rcases lit_eq (U := U) (S := S) (t := t) (i := i) (X := t.2.1 7 i 0) hN rfl k2 hp k3 k4 (e8.trans h10) hf hk hv wh with ⟨q, q1, q2, q3⟩ | ⟨q, s2, q1, q2, q3, q4, q5, q6, q7, q8, q9⟩ | ⟨q2, q3⟩
    · rw [q2, q3, Option.bind_some]
      dsimp only
      rw [if_pos (nI_ne (by omega))]
      exact ⟨_, _, t, s, rfl, rfl, hf, SF_0 s, Or.inr ⟨h4, h5, rfl, w12_n q1, SR_0 t, rfl, rfl, h⟩⟩
    · rw [q3, q4, Option.bind_some]
      dsimp only
      rw [if_pos (nI_ne (by omega))]
      have sr := SR_ly t i q (nI (4096 + v))
      have hca : CA (lyT t i q (nI (4096 + v))) := (GA_ly ⟨e10, AF_refl t⟩ hi q _).1
      have f1 := (ly_f (t := t) (i := i) q (nI (4096 + v))).1 0 (by decide)
      have f3 := (ly_f (t := t) (i := i) q (nI (4096 + v))).2.2
      have hE2 := EX_SR hE sr hca
      obtain ⟨d1, d2, d3, d4, d5, d6, d7, d8, d9, d10⟩ := hE2
      refine ⟨_, _, _, s2, rfl, rfl, ?_, ?_, Or.inr ⟨by rw [f1]; exact h4, by rw [q7]; exact h5, rfl, w12_n q1, sr, by rw [f1], q7, ?_⟩⟩
      · unfold FZ; rw [q7]; exact hf
      · exact ⟨fun k _ => by rw [q7], fun k hk => q8 k (by omega) (by omega) (by omega), q9⟩
      · refine ⟨⟨d1, d2, d3, d4, RN_s d5 (by rw [q7]) (q8 17 (by decide) (by decide) (by decide)) (q8 18 (by decide) (by decide) (by decide)) (q8 19 (by decide) (by decide) (by decide)) (q8 20 (by decide) (by decide) (by decide)), ⟨by rw [q7]; exact d6.1, by rw [q8 2 (by decide) (by decide) (by decide)]; exact d6.2⟩, by rw [q7]; exact d7, by rw [q7]; exact d8, by rw [q7]; exact d9, d10⟩, hi2, by rw [f3]; exact hi, ly_c q1 (nI_ne (by omega)) hcn, hp, by rw [f1]; exact h10, by rw [q7]; exact h29, by rw [q7]; exact h28, by rw [f1]; exact h7, ?_, by rw [f1]; exact h8, Or.inr ⟨by rw [f1]; exact k1, upd X0 q (nI (4096 + v)), q5, ?_, q6⟩⟩
        · unfold FZ; rw [q7]; exact hf
        · rw [ly_r, k3, upd_c X0 0 (nI (4096 + v)) (fun z => q2 z.symm)]
    · rw [q2, q3, Option.bind_some]
      dsimp only
      rw [if_neg (not_not_intro rfl)]
      obtain ⟨t2, r1, r2⟩ := e_report (U := U) (S := S) (N := N) e10 (show ¬ (8 : Int32) = 0 by decide) z
      rw [r1, Option.bind_some]
      exact ⟨_, _, t2, _, rfl, rfl, flt_FZ hf (by decide), SF_SL (flt_SL _ _), Or.inl ⟨r2, flt_ne (by decide)⟩⟩
theorem g_all_f (hN : 0 < N) (hf : FZ s) (h5 : ¬ s.1 5 = 0) : ∃ s2, g_all U S N s = some (0, s2) ∧ SL s s2 ∧ s2.1 5 = s.1 5 := by
  have z : ∀ (x : Int32) (s2 : RS), ¬ s2.1 5 = 0 → g_isSign U S N x s2 = some (0, s2) := by
    intro x s2 h
    unfold g_isSign g_isSign_27 g_isSign_28
    rw [if_pos h]
    rfl
  have h5' : ¬ s.1 5 ≤ 0 := by
    rcases hf with h | h
    · exact absurd h h5
    · exact Int32.not_le.mpr h
  obtain ⟨N, rfl⟩ : ∃ k, N = k + 1 := ⟨N - 1, by omega⟩
  unfold g_all g_part
  rw [z 45 s h5, Option.bind_some]
  dsimp only
  rw [if_pos (show (0 : Int32) = 0 from rfl), g_part_f h5', Option.bind_some]
  show ∃ s2, h_all_10 U S (N + 1) (l_all_10 U S (N + 1) N) 0 (s.1 30) s = some (0, s2) ∧ _
  unfold h_all_10
  rw [z 43 s h5, Option.bind_some]
  dsimp only
  rw [if_neg (show ¬ ¬ (0 : Int32) = 0 from fun z => z rfl), z 45 s h5, Option.bind_some]
  dsimp only
  rw [if_neg (show ¬ ¬ (0 : Int32) = 0 from fun z => z rfl), z 33 s h5, Option.bind_some]
  dsimp only
  rw [if_neg (show ¬ ¬ (0 : Int32) = 0 from fun z => z rfl), z 38 s h5, Option.bind_some]
  dsimp only
  rw [if_pos (show (0 : Int32) = 0 from rfl), Option.bind_some]
  exact ⟨_, rfl, SL_I (SL_0 s) (by decide) _, rfl⟩
theorem sg_f {x : Int32} (h : ¬ s.1 5 = 0) : g_isSign U S N x s = some (0, s) := by
  unfold g_isSign g_isSign_27 g_isSign_28
  rw [if_pos h]
  rfl
theorem lit_f (h : ¬ s.1 5 = 0) (x y z : Int32) : g_literal_66 U S N x y z s = some (0, pI s 30 (-1)) := by
  unfold g_literal_66 g_literal_96 g_literal_97
  rw [Option.bind_some]
  by_cases c : (pI s 30 (-1)).1 9 = 0
  · rw [if_pos c]
  · rw [if_neg c]
    show (if ¬ s.1 5 = 0 then _ else _) = _
    rw [if_pos h]
theorem lS_k {k : Int32} (h : ¬ lS k = 0) : k = 40 ∨ k = 91 := by
  unfold lS at h
  by_cases c : k = 40
  · exact Or.inl c
  · rw [if_neg c] at h
    by_cases d : k = 91
    · exact Or.inr d
    · rw [if_pos d] at h
      exact absurd rfl h
theorem item_eq (hN : 5000 < N) (h : JW b n P c m T ν i p t s) (hl : LA b n P c m t s a) (h4 : t.1 0 0 4 = 0) (h5 : s.1 5 = 0) (h9 : t.1 0 0 9 = nI a) : ∃ x y t2 s2, u_X0_readItem U S N t = some (x, t2) ∧ (if lS (kA t (nI a)) = 0 then g_all U S N s else g_literal U S N s) = some (y, s2) ∧ IT b n P c m T ν i p a t s x y t2 s2 := by
  obtain ⟨hE, hi2, hi, hcn, hp, h10, h29, h28, h7, hf, h8, h12⟩ := id h
  obtain ⟨-, -, ⟨-, -, ec, -, hc, -⟩, -, -, -, -, h11, -, hCA⟩ := id hE
  obtain ⟨kk1, kk2, kk3, kk4⟩ := LA_k hE hl
  have hpl : plW (t.1 0 0 10) := ⟨p, by omega, h10⟩
  unfold IT
  by_cases hs : lS (kA t (nI a)) = 0
  · rw [if_pos hs, if_pos hs]
    obtain ⟨c1, c2⟩ := c_item0 (U := U) (S := S) hN hCA ec hc h4 h9 hl.1 hs
    obtain ⟨y, s2, g1, g2, g3, g4, g5⟩ := all_eq (U := U) (S := S) hN hE hf h5 hl h29 hpl
    rw [g1]
    cases er : rv t 0 a with
    | none =>
      obtain ⟨x, t2, e2, hf2⟩ := c2 er
      exact ⟨x, y, t2, s2, e2, rfl, g3, SF_SL g2, Or.inl ⟨hf2, g4 er⟩⟩
    | some r =>
      obtain ⟨w1, w2, w3⟩ := g5 r er
      obtain ⟨v1, v2⟩ := rv_w hCA er
      refine ⟨r.1, y, _, s2, c1 r er, rfl, g3, SF_SL g2, ?_⟩
      rcases w2 with ⟨k1, k2⟩ | ⟨k1, k2, k3⟩
      · exact Or.inr (Or.inl ⟨h4, k2, k1, SR_9 t _⟩)
      · exact Or.inr (Or.inr ⟨h4, k2, w1.symm, v1, SR_9 t _, w3, r.2, v2, rfl, JW_SL h g2 g3 _, k3, fun _ => ⟨r, rfl, rfl⟩⟩)
  · rw [if_neg hs, if_neg hs]
    have hk := lS_k hs
    obtain ⟨c1, c2⟩ := c_item1 (U := U) (S := S) hN hCA ec hc h4 h9 hl.1 hs
    generalize hkk : kA t (nI a) = K at hk c1 c2
    have hsg : sgn K := by rcases hk with rfl | rfl <;> exact sgn_y _ (by decide)
    have h14 : s.1 14 = K := by
      obtain ⟨-, st, -, -, -, -, lk, -⟩ := hl
      rw [← hkk, kk1]
      exact (lk.2.2.2.2 (by rw [← kk1, hkk]; exact hsg)).2.2
    -- the reference's literal
    obtain ⟨k, hk32, hpg, hpr⟩ : ∃ k, k < 32 ∧ pgS t K = nI (128 * k) ∧ g_literal U S N s = g_literal_43 U S N (s.1 13) (nI k) (clS K) s := by
      unfold g_literal g_literal_26 pgS clS
      rw [h14]
      by_cases c40 : K = 40
      · refine ⟨p / 128, by omega, ?_, ?_⟩
        · rw [if_pos c40, h10, pg_and hp]
        · rw [if_neg (not_not_intro c40), if_neg (show ¬ (128 : Int32) = 0 by decide), if_neg (not_not_intro c40), if_pos c40, h11, h10, show (128 : Int32) = nI 128 from rfl, pk_div (by omega) (by decide) (by decide)]
      · refine ⟨0, by decide, ?_, ?_⟩
        · rw [if_neg c40]; rfl
        · rw [if_pos c40, if_pos c40, if_neg c40]; rfl
    rw [hpr]
    unfold g_literal_43
    obtain ⟨s1, v1, tk⟩ := take_at (U := U) (S := S) hN hE hf hl (Or.inr (Or.inr (Or.inr ⟨by rw [← kk1, hkk]; exact hsg, by rw [← kk1, hkk]; rcases hk with rfl | rfl <;> decide⟩)))
    obtain ⟨t1, -, t3, t4, t5⟩ := id tk
    rw [v1, Option.bind_some]
    dsimp only
    -- a fault before the sign
    have fin : ∀ (y : Int32) (s2 : RS), FZ s2 → SL s s2 → ¬ s2.1 5 = 0 → ∃ s3, ((g_isSign U S N (clS K) s2).bind fun q5 => if q5.1 = 0 then g_literal_66 U S N (s.1 13) (nI k) y q5.2 else (g_take U S N q5.2).bind fun q7 => g_literal_66 U S N (s.1 13) (nI k) y q7.2) = some (0, s3) ∧ FZ s3 ∧ SF s s3 ∧ ¬ s3.1 5 = 0 := by
      intro y s2 f1 f2 f3
      rw [sg_f f3, Option.bind_some]
      dsimp only
      rw [if_pos (show (0 : Int32) = 0 from rfl), lit_f f3]
      exact ⟨_, rfl, f1, SF_SL (SL_I f2 (by decide) _), f3⟩
    rcases t5 h5 with ⟨u1, u2, -⟩ | ⟨u1, u2, u3⟩
    · have hf1 : ¬ s1.1 5 = 0 := by rw [u2]; decide
      obtain ⟨s2, a1, a2, a3⟩ := g_all_f (U := U) (S := S) (N := N) (by omega) t3 hf1
      rw [a1, Option.bind_some]
      dsimp only
      obtain ⟨s3, b1, b2, b3, b4⟩ := fin 0 s2 (by unfold FZ; rw [a3]; exact t3) (SL_t t1 a2) (by rw [a3]; exact hf1)
      obtain ⟨x, t2, e2, hf2⟩ := c2 (rv_6 u1)
      exact ⟨x, 0, t2, s3, e2, b1, b2, b3, Or.inl ⟨hf2, b4⟩⟩
    · obtain ⟨y, s2, g1, g2, g3, g4, g5⟩ := all_eq (U := U) (S := S) hN (EX_SL hE t1) t3 u2 u3 ((t1.1 29 (by decide)).trans h29) hpl
      rw [g1, Option.bind_some]
      dsimp only
      cases er : rv t 0 (a + 1) with
      | none =>
        obtain ⟨s3, b1, b2, b3, b4⟩ := fin y s2 g3 (SL_t t1 g2) (g4 er)
        obtain ⟨x, t2, e2, hf2⟩ := c2 er
        exact ⟨x, 0, t2, s3, e2, b1, b2, b3, Or.inl ⟨hf2, b4⟩⟩
      | some r =>
        obtain ⟨w1, w2, w3⟩ := g5 r er
        obtain ⟨⟨v, hv, ev⟩, hr2⟩ := rv_w hCA er
        rw [c1 r er, hpg]
        have sl2 := SL_t t1 g2
        -- where the class is doomed
        have doom : ∀ a3, kA t (nI a3) = 6 → ∃ x t2, u_X0_literalFor U S N (nI (128 * k)) r.1 (nI a) (qI t 0 0 9 (nI a3)) = some (x, t2) ∧ (¬ t2.1 0 0 4 = 0 ∨ (t2.1 0 0 4 = 0 ∧ kA t2 (t2.1 0 0 9) = 6 ∧ SR t t2)) := by
          intro a3 h6
          obtain ⟨x, t2, e2, r2⟩ := lf_any (U := U) (S := S) (t := qI t 0 0 9 (nI a3)) hN (CA_9 hCA _) h4 (nI (128 * k)) r.1 (nI a)
          refine ⟨x, t2, e2, ?_⟩
          rcases r2 with r2 | ⟨r2, r3, r4⟩
          · exact Or.inl r2
          · refine Or.inr ⟨r2, ?_, SR_t (SR_9 t _) r3⟩
            rw [r4, (SR_k r3).1]
            exact h6
        -- both go on
        have go : ∀ (a3 : Nat) (s3 : RS), SL s s3 → FZ s3 → s3.1 5 = 0 → a < a3 → LA b n P c m t s3 a3 → ∃ x y2 t2 s4, u_X0_literalFor U S N (nI (128 * k)) r.1 (nI a) (qI t 0 0 9 (nI a3)) = some (x, t2) ∧ g_literal_66 U S N (s.1 13) (nI k) y s3 = some (y2, s4) ∧ FZ s4 ∧ SF s s4 ∧ ((¬ t2.1 0 0 4 = 0 ∧ ¬ s4.1 5 = 0) ∨ (t2.1 0 0 4 = 0 ∧ ¬ s4.1 5 = 0 ∧ kA t2 (t2.1 0 0 9) = 6 ∧ SR t t2) ∨ (t2.1 0 0 4 = 0 ∧ s4.1 5 = 0 ∧ x = y2 ∧ W12 x ∧ SR t t2 ∧ s4.1 30 = -1 ∧ ∃ a2, a < a2 ∧ t2.1 0 0 9 = nI a2 ∧ JW b n P c m T ν i p t2 s4 ∧ LA b n P c m t2 s4 a2 ∧ (lS K = 0 → ∃ r, rv t 0 a = some r ∧ r.2 = a2))) := by
          intro a3 s3 sl3 f3 f5 ha3 hl3
          have sl4 : SL s (pI s3 30 (-1)) := SL_I sl3 (by decide) _
          have hJ := JW_SL h sl4 f3 (nI a3)
          obtain ⟨x, y2, t2, s4, d1, d2, d3, d4, d5⟩ := lf_eq (U := U) (S := S) hN hJ h4 f5 hk32 hv (nI a) (s.1 13)
          refine ⟨x, y2, t2, s4, by rw [ev]; exact d1, ?_, d3, SF_t (SF_SL sl4) d4, ?_⟩
          · rw [← d2]
            unfold g_literal_66 g_literal_96 g_literal_97
            rw [Option.bind_some]
            by_cases c9 : (pI s3 30 (-1)).1 9 = 0
            · rw [if_pos c9, if_pos c9]
            · rw [if_neg c9, if_neg c9, if_neg (show ¬ ¬ (pI s3 30 (-1)).1 5 = 0 from not_not_intro f5), w1, ev]
              cases g_literalFor U S N (nI v) (nI k) (s.1 13) (pI s3 30 (-1)) <;> rfl
          · rcases d5 with d5 | ⟨d5, d6, d7, d8, d9, d10, d11, d12⟩
            · exact Or.inl d5
            · refine Or.inr (Or.inr ⟨d5, d6, d7, d8, SR_t (SR_9 t _) d9, by rw [d11]; rfl, a3, ha3, d10, d12, ?_, fun z => absurd (by rw [hkk]; exact z) hs⟩)
              have hl4 : LA b n P c m (qI t 0 0 9 (nI a3)) s4 a3 := LA_SL hl3 (by rw [d11]; rfl) (by rw [d11]; rfl) (by rw [d11]; rfl) (by rw [d11]; rfl) (by rw [d11]; rfl)
              exact LA_SR hl4 d9
        have hcl : sgn (clS K) := by unfold clS; split <;> exact sgn_y _ (by decide)
        have hcl6 : ¬ (6 : Int32) = clS K := by unfold clS; split <;> decide
        rcases w2 with ⟨k1, k2⟩ | ⟨k1, k2, k3⟩
        · rw [k1, if_neg hcl6]
          obtain ⟨s3, b1, b2, b3, b4⟩ := fin y s2 g3 sl2 k2
          obtain ⟨x, t2, e2, r2⟩ := doom r.2 k1
          refine ⟨x, 0, t2, s3, e2, b1, b2, b3, ?_⟩
          rcases r2 with r2 | ⟨r2, r3, r4⟩
          · exact Or.inl ⟨r2, b4⟩
          · exact Or.inr (Or.inl ⟨r2, b4, r3, r4⟩)
        · rw [isg (EX_SL hE sl2) k3 k2 hcl, Option.bind_some]
          dsimp only
          by_cases cc : kA t (nI r.2) = clS K
          · rw [if_pos cc, if_pos cc, if_neg (show ¬ (1 : Int32) = 0 by decide)]
            obtain ⟨kk5, -⟩ := LA_k (EX_SL hE sl2) k3
            obtain ⟨s3, z1, z2⟩ := take_at (U := U) (S := S) hN (EX_SL hE sl2) g3 k3 (Or.inr (Or.inr (Or.inr ⟨by rw [← kk5, cc]; exact hcl, by rw [← kk5, cc]; unfold clS; split <;> decide⟩)))
            obtain ⟨z3, -, z5, -, z7⟩ := z2
            rw [z1, Option.bind_some]
            dsimp only
            rcases z7 k2 with ⟨u1, u2, -⟩ | ⟨u1, u2, u3⟩
            · have hf3 : ¬ s3.1 5 = 0 := by rw [u2]; decide
              rw [lit_f hf3]
              obtain ⟨x, t2, e2, r2⟩ := doom (r.2 + 1) u1
              refine ⟨x, 0, t2, _, e2, rfl, z5, SF_SL (SL_I (SL_t sl2 z3) (by decide) _), ?_⟩
              rcases r2 with r2 | ⟨r2, r3, r4⟩
              · exact Or.inl ⟨r2, hf3⟩
              · exact Or.inr (Or.inl ⟨r2, hf3, r3, r4⟩)
            · exact go (r.2 + 1) s3 (SL_t sl2 z3) z5 u2 (by omega) u3
          · rw [if_neg cc, if_neg cc, if_pos (show (0 : Int32) = 0 from rfl)]
            exact go r.2 s2 sl2 g3 k2 (by omega) k3
end
