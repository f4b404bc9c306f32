/-! LAYER 3, words: both kinds, whole -/
section
variable {U S N n c m T i p a : Nat} {b : Nat → Int32} {P ν : Nat → Nat} {t : CS} {s : RS}
theorem gw_go (hN : 5000 < N) (h : EX b n P c m T ν t s) (hl : LA b n P c m t s a) (h5 : s.1 5 = 0) (hb : ¬ bP t (nI a) = 0) : g_word U S N s = g_word_53 U S N 0 (-1) 0 0 (-1) (-1) 0 s := by
  have hb2 := fun z => hb ((bP_l t _).mpr z)
  unfold g_word
  rw [bv_eq hN h hl h5, Option.bind_some]
  dsimp only
  by_cases h1 : bV t (nI a) = 0
  · rw [if_neg (not_not_intro h1), isg h hl h5 (sgn_y 40 (by decide)), Option.bind_some]
    dsimp only
    by_cases h2 : kA t (nI a) = 40
    · rw [if_pos h2, if_pos (show ¬ (1 : Int32) = 0 by decide)]
    · rw [if_neg h2, if_neg (show ¬ ¬ (0 : Int32) = 0 from fun z => z rfl), isg h hl h5 (sgn_y 91 (by decide)), Option.bind_some]
      dsimp only
      by_cases h3 : kA t (nI a) = 91
      · rw [if_pos h3, if_pos (show ¬ (1 : Int32) = 0 by decide)]
      · exact absurd ⟨h1, h2, h3⟩ hb2
  · rw [if_pos h1]
theorem gw_no (hN : 5000 < N) (h : EX b n P c m T ν t s) (hf : FZ s) (hl : LA b n P c m t s a) (h5 : s.1 5 = 0) (hb : bP t (nI a) = 0) : g_word U S N s = some ((), flt s 2 (s.1 13)) := by
  obtain ⟨h1, h2, h3⟩ := (bP_l t _).mp hb
  unfold g_word
  rw [bv_eq hN h hl h5, Option.bind_some]
  dsimp only
  rw [if_neg (not_not_intro h1), isg h hl h5 (sgn_y 40 (by decide)), Option.bind_some]
  dsimp only
  rw [if_neg h2, if_neg (show ¬ ¬ (0 : Int32) = 0 from fun z => z rfl), isg h hl h5 (sgn_y 91 (by decide)), Option.bind_some]
  dsimp only
  rw [if_neg h3, if_neg (show ¬ ¬ (0 : Int32) = 0 from fun z => z rfl), g_fails_eq hf]
  rfl
theorem gw_53 (hN : 5000 < N) (h : JS b n P c m T ν i t s) (h5 : s.1 5 = 0) (hp : p ≤ 4096) (h10 : t.1 0 0 10 = nI p) : (mlOK t i p 1 → g_word_53 U S N 0 (-1) 0 0 (-1) (-1) 0 s = l_word_113 U S N N 0 (-1) 0 0 (-1) (-1) 0 s) ∧ (¬ mlOK t i p 1 → ∃ s2, g_word_53 U S N 0 (-1) 0 0 (-1) (-1) 0 s = some ((), s2) ∧ FZ s2 ∧ SL s s2 ∧ ¬ s2.1 5 = 0) := by
  have hml := ml_all (p := p) (k := 1) h
  obtain ⟨hE, -, -, -, -, -, -, -, hf, -⟩ := id h
  obtain ⟨-, -, -, -, -, -, -, h11, -⟩ := id hE
  have bad : ∀ k : Int32, 0 < k → ∃ s2, ((g_fails U S N k (s.1 27) s).bind fun q => g_word_105 U S N 0 (-1) 0 0 (-1) (-1) 0 q.2) = some ((), s2) ∧ FZ s2 ∧ SL s s2 ∧ ¬ s2.1 5 = 0 := by
    intro k hk
    rw [g_fails_eq hf, Option.bind_some]
    dsimp only
    have h1 : FZ (flt s k (s.1 27)) := flt_FZ hf hk
    have h2 : ¬ (flt s k (s.1 27)).1 5 = 0 := flt_ne hk
    unfold g_word_105
    rw [if_neg (nle0 h1 h2)]
    exact ⟨_, rfl, h1, flt_SL _ _, h2⟩
  have good : g_word_105 U S N 0 (-1) 0 0 (-1) (-1) 0 s = l_word_113 U S N N 0 (-1) 0 0 (-1) (-1) 0 s := by
    unfold g_word_105
    rw [if_pos (le0 h5)]
  unfold g_word_53
  rw [h11, h10, good]
  by_cases c1 : p < 4096
  · rw [if_pos ((leL (k := 4095) (c := 4095) rfl (by omega) (by decide)).mpr (by omega))]
    by_cases c9 : s.1 9 = 0
    · rw [if_pos c9]
      exact ⟨fun _ => rfl, fun z => absurd (hml.mpr ⟨by omega, fun y hy => ⟨by omega, Or.inl c9⟩⟩) z⟩
    · rw [if_neg c9, rA_y (by decide) c1, Option.bind_some]
      by_cases c24 : s.2.1 24 p = 0
      · rw [if_pos c24]
        refine ⟨fun _ => rfl, fun z => absurd (hml.mpr ⟨by omega, fun y hy => ⟨by omega, Or.inr ?_⟩⟩) z⟩
        rw [show p + y = p by omega]
        exact c24
      · rw [if_neg c24]
        exact ⟨fun z => absurd (((hml.mp z).2 0 (by decide)).2.resolve_left c9) c24, fun _ => bad 8 (by decide)⟩
  · rw [if_neg (fun z => by have := (leL (k := 4095) (c := 4095) rfl (by omega) (by decide)).mp z; omega)]
    exact ⟨fun z => absurd z.1 (by omega), fun _ => bad 6 (by decide)⟩
theorem JW_JS (h : JS b n P c m T ν i t s) (h10 : t.1 0 0 10 = nI p) (ok : mlOK t i p 1) : JW b n P c m T ν i p (if t.1 0 0 6 = 0 then t else lyT t i p 0) s ∧ SR t (if t.1 0 0 6 = 0 then t else lyT t i p 0) ∧ (if t.1 0 0 6 = 0 then t else lyT t i p 0).1 0 = t.1 0 := by
  have hml := (ml_all (p := p) (k := 1) h).mp ok
  obtain ⟨hE, hi2, hi, hcn, hpl, h29, h28, h7, hf, h8, h6, hR⟩ := h
  obtain ⟨e1, e2, e3, e4, e5, e6, e7, e8, e9, e10⟩ := id hE
  by_cases c6 : t.1 0 0 6 = 0
  · rw [if_pos c6]
    exact ⟨⟨hE, hi2, hi, hcn, by omega, h10, h29, h28, h7, hf, h8, Or.inl ⟨c6, hR⟩⟩, SR_0 t, rfl⟩
  · rw [if_neg c6]
    have f1 := (ly_f (t := t) (i := i) p 0).1 0 (by decide)
    have f3 := (ly_f (t := t) (i := i) p 0).2.2
    have sr := SR_ly t i p 0
    have hca : CA (lyT t i p 0) := (GA_ly ⟨e10, AF_refl t⟩ hi p _).1
    refine ⟨⟨EX_SR hE sr hca, hi2, by rw [f3]; exact hi, ly_c (by omega) (by decide) hcn, by omega, by rw [f1]; exact h10, h29, h28, by rw [f1]; exact h7, hf, by rw [f1]; exact h8, Or.inr ⟨by rw [f1]; exact h6.resolve_left c6, t.2.1 7 i 0, hR, ly_r p 0, ?_⟩⟩, sr, f1⟩
    have := (hml.2 0 (by decide)).2.resolve_left (by rw [e9]; exact c6)
    exact this
theorem nRF_SR {t2 : CS} (h : nRF t a) (g : SR t t2) : nRF t2 a := by
  obtain ⟨k1, k2, -, -, -, -, k7, -⟩ := SR_k g
  unfold nRF at *
  rw [k1, k2, k7]
  exact h
theorem j_word (hN : 5000 < N) (h : JS b n P c m T ν i t s) (hl : LA b n P c m t s a) (h4 : t.1 0 0 4 = 0) (h5 : s.1 5 = 0) (h9 : t.1 0 0 9 = nI a) (hR : nRF t a) : ∃ t2 s2, u_X0_passWord U S N t = some ((), t2) ∧ g_word U S N s = some ((), s2) ∧ OUT b n P c m i s t2 s2 := by
  obtain ⟨hE, hi2, hi, hcn, ⟨p, hp, h10⟩, h29, h28, h7, hf, h8, h6, hRS⟩ := id h
  obtain ⟨-, -, ⟨-, -, ec, -, hc, -⟩, -, -, -, -, -, -, hCA⟩ := id hE
  unfold u_X0_passWord
  rw [e_begP hCA, Option.bind_some, h9]
  dsimp only
  by_cases cb : bP t (nI a) = 0
  · rw [if_neg (not_not_intro cb), e_kind hCA, Option.bind_some, gw_no hN hE hf hl h5 cb]
    dsimp only
    obtain ⟨t2, e2, hf2⟩ := c_refuse (U := U) (S := S) (N := N) hCA (kA t (nI a))
    rw [e2, Option.bind_some]
    exact ⟨t2, _, rfl, rfl, flt_FZ hf (by decide), SF_SL (flt_SL _ _), Or.inl ⟨hf2, flt_ne (by decide)⟩⟩
  · rw [if_pos cb, gw_go hN hE hl h5 cb]
    obtain ⟨w1, w2⟩ := gw_53 (U := U) (S := S) hN h h5 hp h10
    obtain ⟨c1, c2⟩ := e_mbw (U := U) (S := S) hN hCA hi hi2 hp h10 h4
    by_cases ok : mlOK t i p 1
    · rw [w1 ok, c1 ok, Option.bind_some]
      obtain ⟨hJ, sr, e0⟩ := JW_JS h h10 ok
      generalize (if t.1 0 0 6 = 0 then t else lyT t i p 0) = t1 at *
      dsimp only
      rw [if_pos (show ¬ (1 : Int32) = 0 by decide)]
      exact pw_loop (U := U) (S := S) hN N N a 0 0 0 t1 s hJ (LA_SR hl sr) (by rw [e0]; exact h4) h5 (by rw [e0]; exact h9) (by rw [(SR_k sr).2.2.2.2.2.2.1]; exact cb) w12_0 (by omega) (by omega) (by omega) (by omega) (fun _ => nRF_SR hR sr)
    · obtain ⟨s2, r1, r2, r3, r4⟩ := w2 ok
      obtain ⟨t2, q1, q2⟩ := c2 ok
      rw [r1, q1, Option.bind_some]
      dsimp only
      rw [if_neg (show ¬ ¬ (0 : Int32) = 0 from fun z => z rfl)]
      exact ⟨t2, s2, rfl, rfl, r2, SF_SL r3, Or.inl ⟨q2, r4⟩⟩
theorem oP_b {x : Int32} (hb : ¬ bP t x = 0) (h45 : ¬ kA t x = 45) : oP (kA t x) = 0 := by
  have key : ∀ k : Int32, kA t x = k → ¬ k = 1 → ¬ k = 2 → ¬ k = 3 → ¬ k = 46 → ¬ k = 45 → ¬ k = 40 → ¬ k = 91 → False := by
    intro k e n1 n2 n3 n4 n5 n6 n7
    refine hb ((bP_l t x).mpr ⟨?_, by rw [e]; exact n6, by rw [e]; exact n7⟩)
    unfold bV
    rw [e, if_pos n1, if_neg n2, if_neg n3, if_neg n4, if_pos n5]
  unfold oP
  rw [if_neg (fun e => key 43 e (by decide) (by decide) (by decide) (by decide) (by decide) (by decide) (by decide)), if_neg h45, if_neg (fun e => key 33 e (by decide) (by decide) (by decide) (by decide) (by decide) (by decide) (by decide)), if_pos (fun e => key 38 e (by decide) (by decide) (by decide) (by decide) (by decide) (by decide) (by decide))]
theorem j_reference (hN : 5000 < N) (h : JS b n P c m T ν i t s) (hl : LA b n P c m t s a) (h4 : t.1 0 0 4 = 0) (h5 : s.1 5 = 0) (h9 : t.1 0 0 9 = nI a) (hR : ¬ nRF t a) : ∃ t2 s2, u_X0_passReference U S N t = some ((), t2) ∧ g_word U S N s = some ((), s2) ∧ OUT b n P c m i s t2 s2 := by
  obtain ⟨hE, hi2, hi, hcn, ⟨p, hp, h10⟩, h29, h28, h7, hf, h8, h6, hRS⟩ := id h
  obtain ⟨-, -, ⟨-, -, ec, -, hc, -⟩, -, -, -, -, -, -, hCA⟩ := id hE
  obtain ⟨y1, y2, y3, y4, y5⟩ := Decidable.not_not.mp hR
  obtain ⟨w, w1, w2, y6⟩ := cd_lt y2 (show vA t (nI a) < 53 by
    have := Int32.not_lt.mp y3
    rw [Int32.lt_iff_toInt_lt]
    rw [Int32.le_iff_toInt_le] at this
    have e1 : (10 : Int32).toInt = 10 := by decide
    have e2 : (53 : Int32).toInt = 53 := by decide
    omega)
  have w3 : w ≤ 10 := by
    rw [y6] at y3
    have := mt (Llt (x := w) (k := 10) (c := 10) rfl (by omega) (by decide)).mpr y3
    omega
  have cb : ¬ bP t (nI a) = 0 := by
    intro z
    have z1 := ((bP_l t _).mp z).1
    unfold bV at z1
    rw [y1, y6, sN_n (by omega), if_neg (not_not_intro rfl), if_neg (show ¬ w < 5 by omega), if_neg (not_not_intro rfl)] at z1
    exact absurd z1 (by decide)
  have hop := oP_b y5 y4
  unfold u_X0_passReference
  rw [gw_go hN hE hl h5 cb]
  obtain ⟨q1, q2⟩ := gw_53 (U := U) (S := S) hN h h5 hp h10
  obtain ⟨c1, c2⟩ := e_mbw (U := U) (S := S) hN hCA hi hi2 hp h10 h4
  by_cases ok : mlOK t i p 1
  · rw [q1 ok, c1 ok, Option.bind_some]
    obtain ⟨hJ, sr, e0⟩ := JW_JS h h10 ok
    obtain ⟨k1, k2, -, -, -, -, k7, -⟩ := SR_k sr
    have hl1 := LA_SR hl sr
    generalize (if t.1 0 0 6 = 0 then t else lyT t i p 0) = t1 at *
    rw [← k1] at y1 hop
    rw [← k2] at y6
    rw [← k7] at y5 cb
    obtain ⟨hE1, -, -, -, hp1, h101, -⟩ := id hJ
    obtain ⟨-, -, -, -, -, -, -, -, -, hCA1⟩ := id hE1
    dsimp only
    rw [if_pos (show ¬ (1 : Int32) = 0 by decide), e0, h9, e_value hCA1, Option.bind_some]
    dsimp only
    rw [e_nval hCA1, Option.bind_some, Option.bind_some, e0, h9, nI_1, y6]
    obtain ⟨v1, v2, v3⟩ := rv_cd hCA1 y1 y6 w1 w2 hop
    obtain ⟨F, hF, rfl⟩ : ∃ F, F < 6 ∧ w = 5 + F := ⟨w - 5, by omega, by omega⟩
    rw [v3, fx_cd F (by omega), if_pos hF]
    obtain ⟨-, -, -, -, -, -, o7⟩ := op_tab F hF
    have o8 : nI (512 * F) = nI (512 * F) ||| idB 0 := o7
    obtain ⟨y, s2, g1, g2, g3, g4, g5⟩ := all_eq (U := U) (S := S) hN hE1 hf h5 hl1 h29 ⟨p, hp, h101⟩
    obtain ⟨x1, x2, x3⟩ := g5 _ v1
    obtain ⟨M, hM⟩ : ∃ M, N = M + 1 := ⟨N - 1, by omega⟩
    have ew : l_word_113 U S N N 0 (-1) 0 0 (-1) (-1) 0 s = l_word_113 U S N (M + 1) 0 (-1) 0 0 (-1) (-1) 0 s := by rw [hM]
    rw [ew, w_go hN hE1 hl1 h5 cb, w_150 hE1 hl1, show lS (kA t1 (nI a)) = 0 by rw [y1]; rfl, if_pos rfl, g1, Option.bind_some]
    dsimp only
    rcases x2 with ⟨z1, -⟩ | ⟨-, z2, z3⟩
    · exact absurd (bP_6 z1) y5
    · have e30 : s2.1 30 = nI F := by rw [x3, v2]; congr 1; omega
      rw [(w_219z (U := U) (S := S) (N := N) (l_word_113 U S N M) z2 0 0 (-1) (-1) 0 (s.1 13) y).2 ⟨rfl, by rw [e30]; exact nI_ne (by omega), by rw [e30]; exact nI_nn (by omega), by rw [e30]; exact fun z => by have := (Llt (k := 5) (c := 5) rfl (by omega) (by decide)).mp z; omega⟩, e30]
      obtain ⟨t3, s3, f1, f2, f3, f4, f5⟩ := pr_loop (U := U) (S := S) hN hF N M (a + 1) 0 1 0 (0 ||| y) (qI t1 0 0 9 (nI (a + 1))) s2 (JW_SL hJ g2 g3 _) z3 (by show t1.1 0 0 4 = 0; rw [e0]; exact h4) z2 rfl (Or.inl rfl) (by omega) (fun _ => y5) (by omega) (by omega) (by omega) (by omega)
      rw [o8]
      exact ⟨t3, s3, f1, f2, f3, SF_t (SF_SL g2) f4, f5⟩
  · obtain ⟨s2, r1, r2, r3, r4⟩ := q2 ok
    obtain ⟨t2, d1, d2⟩ := c2 ok
    rw [r1, d1, Option.bind_some]
    dsimp only
    rw [if_neg (show ¬ ¬ (0 : Int32) = 0 from fun z => z rfl)]
    exact ⟨t2, s2, rfl, rfl, r2, SF_SL r3, Or.inl ⟨d2, r4⟩⟩
end
