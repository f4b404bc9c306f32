/-! LAYER 3, words: a word's end; words that are no reference -/
section
variable {U S N n c m T i p a : Nat} {b : Nat → Int32} {P ν : Nat → Nat} {t : CS} {s : RS}
theorem fin_eq (h : JW b n P c m T ν i p t s) (hl : LA b n P c m t s a) (h4 : t.1 0 0 4 = 0) (h5 : s.1 5 = 0) (h9 : t.1 0 0 9 = nI a) {v w : Int32} (hv : ¬ t.1 0 0 6 = 0 → v = w ∧ W12 v) : ∃ t2 s2, u_X0_finishWord U S N v t = some ((), t2) ∧ g_lies U S N w s = some ((), s2) ∧ OUT b n P c m i s t2 s2 := by
  obtain ⟨hE, hi2, hi, hcn, hp, h10, h29, h28, h7, hf, h8, h12⟩ := id h
  obtain ⟨e1, e2, e3, e4, e5, e6, e7, e8, e9, e10⟩ := id hE
  have base : ∀ (t' : CS) (s' : RS), SR t t' → CA t' → t'.1 0 0 4 = 0 → t'.1 0 0 9 = nI a → t'.1 7 i 1 = nI (cn (t'.2.1 7 i 0) 4096) → s'.1 = up1 s.1 11 (nI (p + 1)) → s'.2.2 = s.2.2 → (∀ j, j ≠ 22 → j ≠ 23 → s'.2.1 j = s.2.1 j) → RSh (t'.2.1 7 i 0) s' → OUT b n P c m i s (qI t' 0 0 10 (nI (p + 1))) s' := by
    intro t' s' sr hca g4 g9 gc q1 q2 q3 hR
    have e : ∀ j, j ≠ 11 → s'.1 j = s.1 j := fun j hj => by rw [q1, up1_n _ _ hj]
    obtain ⟨a1, a2, a3, a4, a5, a6, a7, a8, a9, a10⟩ := EX_SR hE sr hca
    have hl' := LA_SR hl sr
    obtain ⟨-, -, -, -, -, -, g7, g8, g9', g10, g11⟩ := sr
    have hfz : FZ s' := by unfold FZ; rw [e 5 (by decide)]; exact hf
    refine ⟨hfz, ⟨fun k hk => e k (by omega), fun k hk => q3 k (by omega) (by omega), q2⟩, Or.inr (Or.inr ⟨g4, (e 5 (by decide)).trans h5, a, T, ν, g9, ?_, LA_SL (s2 := s') hl' (e 12 (by decide)) (e 13 (by decide)) (e 14 (by decide)) (e 15 (by decide)) (e 16 (by decide))⟩)⟩
    refine ⟨⟨a1, a2, a3, a4, RN_s a5 (e 21 (by decide)) (q3 17 (by decide) (by decide)) (q3 18 (by decide) (by decide)) (q3 19 (by decide) (by decide)) (q3 20 (by decide) (by decide)), ⟨(e 3 (by decide)).trans a6.1, by rw [q3 2 (by decide) (by decide)]; exact a6.2⟩, (e 10 (by decide)).trans a7, ?_, (e 9 (by decide)).trans a9, (GA_0 ⟨a10, AF_refl t'⟩ 10 _).1⟩, hi2, ?_, gc, ⟨p + 1, by omega, rfl⟩, (e 29 (by decide)).trans h29, (e 28 (by decide)).trans h28, ?_, hfz, ?_, ?_, hR⟩
    · rw [q1, up1_s]; rfl
    · show t'.2.2.2.1 0 0 3 = some i; rw [g11]; exact hi
    · show t'.1 0 0 7 = 0; rw [g8]; exact h7
    · show t'.1 0 0 8 = 0 ∨ t'.1 0 0 8 = 1; rw [g9']; exact h8
    · show t'.1 0 0 6 = 0 ∨ t'.1 0 0 6 = 1; rw [g7]
      rcases h12 with ⟨k1, -⟩ | ⟨k1, -⟩
      · exact Or.inl k1
      · exact Or.inr k1
  rw [e_fin hi hi2 hp h10 h4 v]
  rcases h12 with ⟨k1, k2⟩ | ⟨k1, X0, k2, k3, k4⟩
  · rw [if_pos k1, lies_0 (e8.trans h10) hp (e9.trans k1)]
    exact ⟨_, _, rfl, rfl, base t _ (SR_0 t) e10 h4 h9 hcn rfl rfl (fun _ _ _ => rfl) (RSh_s k2 ⟨rfl, rfl, rfl, rfl⟩)⟩
  · have k1' : ¬ t.1 0 0 6 = 0 := by rw [k1]; decide
    obtain ⟨rfl, x, hx, rfl⟩ := hv k1'
    rw [if_neg k1', lies_1 (e8.trans h10) hp (by rw [e9]; exact k1') k4, w12_id (w12_n hx)]
    have f1 := (ly_f (t := t) (i := i) p (nI x)).1 0 (by decide)
    refine ⟨_, _, rfl, rfl, base (lyT t i p (nI x)) _ (SR_ly t i p _) (GA_ly ⟨e10, AF_refl t⟩ hi p _).1 (by rw [f1]; exact h4) (by rw [f1]; exact h9) (ly_c hp (nI_ne (by omega)) hcn) rfl rfl (fun j j1 j2 => ?_) ?_⟩
    · show up1 (up1 s.2.1 23 _) 22 _ j = _
      rw [up1_n _ _ j1, up1_n _ _ j2]
    · rw [ly_r, k3, upd_u]
      exact RSh_s (RSh_t k2 hp hx k4) ⟨rfl, rfl, rfl, rfl⟩
theorem fin_d (hi : t.2.2.2.1 0 0 3 = some i) (hi2 : i < 2) (hp : p < 4096) (h10 : t.1 0 0 10 = nI p) (h4 : t.1 0 0 4 = 0) (h6 : kA t (t.1 0 0 9) = 6) (v : Int32) : ∃ t2, u_X0_finishWord U S N v t = some ((), t2) ∧ t2.1 0 0 4 = 0 ∧ kA t2 (t2.1 0 0 9) = 6 := by
  rw [e_fin hi hi2 hp h10 h4 v]
  refine ⟨_, rfl, ?_⟩
  by_cases c6 : t.1 0 0 6 = 0
  · rw [if_pos c6]
    exact ⟨h4, h6⟩
  · rw [if_neg c6]
    have f1 := (ly_f (t := t) (i := i) p v).1 0 (by decide)
    refine ⟨by rw [← h4, ← f1]; rfl, ?_⟩
    have sr := SR_ly t i p v
    show kA (lyT t i p v) ((lyT t i p v).1 0 0 9) = 6
    rw [(SR_k sr).1, f1]
    exact h6
theorem fin_f (h4 : ¬ t.1 0 0 4 = 0) (v : Int32) : ∃ t2, u_X0_finishWord U S N v t = some ((), t2) ∧ ¬ t2.1 0 0 4 = 0 := ⟨_, e_finf h4 v, h4⟩
theorem ub (r : Option (Unit × CS)) : (r.bind fun q1 => some ((), q1.2)) = r := by cases r <;> rfl
theorem rb (r : Option (Unit × RS)) : (r.bind fun q1 => some ((), q1.2)) = r := by cases r <;> rfl
theorem pw_end {f : Nat} {v x y : Int32} (h : ¬ t.1 0 0 4 = 0 ∨ y = 0) : ul_X0_passWord_38 U S N (f + 1) v y x t = u_X0_finishWord U S N v t := by
  show uh_X0_passWord_38 U S N (ul_X0_passWord_38 U S N f) v y x t = _
  unfold uh_X0_passWord_38 u_X0_passWord_108
  rw [ub]
  by_cases c1 : t.1 9 0 5 < x
  · rw [if_pos c1]
  · rw [if_neg c1]
    by_cases c2 : t.1 0 0 4 = 0
    · rw [if_neg (not_not_intro c2), if_pos (h.resolve_left (not_not_intro c2))]
    · rw [if_pos c2]
theorem le0 (h : s.1 5 = 0) : s.1 5 ≤ 0 := by rw [h]; decide
theorem nle0 (hf : FZ s) (h : ¬ s.1 5 = 0) : ¬ s.1 5 ≤ 0 := by
  rcases hf with e | e
  · exact absurd e h
  · exact Int32.not_le.mpr e
theorem w_354 (h5 : s.1 5 = 0) {F k : Int32} (h : F = -1 ∨ k ≤ 1) (v d A W : Int32) : g_word_354 U S N v F k d A W s = g_lies U S N v s := by
  have e : g_word_398 U S N v s = g_lies U S N v s := by
    unfold g_word_398 g_word_410
    rw [if_neg (not_not_intro h5), rb]
  unfold g_word_354
  rw [if_pos (le0 h5), e]
  by_cases c : F = -1
  · rw [if_pos c]
  · rw [if_neg c, if_pos (h.resolve_left c)]
theorem w_f {g : Nat} (hf : FZ s) (h5 : ¬ s.1 5 = 0) (v F k d A W L : Int32) : l_word_113 U S N (g + 1) v F k d A W L s = some ((), s) := by
  show h_word_113 U S N (l_word_113 U S N g) v F k d A W L s = _
  unfold h_word_113 g_word_354
  rw [if_pos h5, if_neg (nle0 hf h5)]
theorem w_lit {g : Nat} (h5 : s.1 5 = 0) {L : Int32} (hL : ¬ L = 0) (v F k d A W : Int32) : l_word_113 U S N (g + 1) v F k d A W L s = g_word_354 U S N v F k d A W s := by
  show h_word_113 U S N (l_word_113 U S N g) v F k d A W L s = _
  unfold h_word_113
  rw [if_neg (not_not_intro h5), if_pos hL]
theorem bP_l (t : CS) (x : Int32) : bP t x = 0 ↔ (bV t x = 0 ∧ ¬ kA t x = 40 ∧ ¬ kA t x = 91) := by
  unfold bP lS
  by_cases c : bV t x = 0
  · rw [if_neg (not_not_intro c)]
    by_cases c1 : kA t x = 40
    · rw [if_pos c1, if_neg (show ¬ (1 : Int32) = 0 by decide)]
      exact ⟨fun z => absurd z (by decide), fun z => absurd c1 z.2.1⟩
    · rw [if_neg c1]
      by_cases c2 : kA t x = 91
      · rw [if_neg (not_not_intro c2), if_neg (show ¬ (1 : Int32) = 0 by decide)]
        exact ⟨fun z => absurd z (by decide), fun z => absurd c2 z.2.2⟩
      · rw [if_pos c2, if_pos rfl]
        exact ⟨fun _ => ⟨c, c1, c2⟩, fun _ => rfl⟩
  · rw [if_pos c]
    exact ⟨fun z => absurd z (by decide), fun z => absurd z.1 c⟩
theorem bP_6 {x : Int32} (h : kA t x = 6) : bP t x = 0 := by
  rw [bP_l]
  refine ⟨?_, by rw [h]; decide, by rw [h]; decide⟩
  unfold bV
  rw [h]
  rfl
theorem w_end {g : Nat} (hN : 5000 < N) (h : EX b n P c m T ν t s) (hl : LA b n P c m t s a) (h5 : s.1 5 = 0) (hb : bP t (nI a) = 0) (v F k d A W : Int32) : l_word_113 U S N (g + 1) v F k d A W 0 s = g_word_354 U S N v F k d A W s := by
  obtain ⟨h1, h2, h3⟩ := (bP_l t _).mp hb
  show h_word_113 U S N (l_word_113 U S N g) v F k d A W 0 s = _
  unfold h_word_113
  rw [if_neg (not_not_intro h5), if_neg (show ¬ ¬ (0 : Int32) = 0 from fun z => z rfl), bv_eq hN h hl h5, Option.bind_some]
  dsimp only
  rw [if_neg (not_not_intro h1), isg h hl h5 (sgn_y 40 (by decide)), Option.bind_some]
  dsimp only
  rw [if_neg h2, if_neg (show ¬ ¬ (0 : Int32) = 0 from fun z => z rfl), isg h hl h5 (sgn_y 91 (by decide)), Option.bind_some]
  dsimp only
  rw [if_neg h3, if_pos (show (0 : Int32) = 0 from rfl)]
theorem w_go {g : Nat} (hN : 5000 < N) (h : EX b n P c m T ν t s) (hl : LA b n P c m t s a) (h5 : s.1 5 = 0) (hb : ¬ bP t (nI a) = 0) (v F k d A W : Int32) : l_word_113 U S N (g + 1) v F k d A W 0 s = g_word_150 U S N (l_word_113 U S N g) v F k d A W s := by
  have hb2 := fun z => hb ((bP_l t _).mpr z)
  show h_word_113 U S N (l_word_113 U S N g) v F k d A W 0 s = _
  unfold h_word_113
  rw [if_neg (not_not_intro h5), if_neg (show ¬ ¬ (0 : Int32) = 0 from fun z => z rfl), bv_eq hN h hl h5, Option.bind_some]
  dsimp only
  by_cases h1 : bV t (nI a) = 0
  · rw [if_neg (not_not_intro h1), isg h hl h5 (sgn_y 40 (by decide)), Option.bind_some]
    dsimp only
    by_cases h2 : kA t (nI a) = 40
    · rw [if_pos h2, if_pos (show ¬ (1 : Int32) = 0 by decide)]
    · rw [if_neg h2, if_neg (show ¬ ¬ (0 : Int32) = 0 from fun z => z rfl), isg h hl h5 (sgn_y 91 (by decide)), Option.bind_some]
      dsimp only
      by_cases h3 : kA t (nI a) = 91
      · rw [if_pos h3, if_neg (show ¬ (1 : Int32) = 0 by decide)]
      · exact absurd ⟨h1, h2, h3⟩ hb2
  · rw [if_pos h1]
/-- the kind, as the reference has it -/
theorem LA_4 (h : EX b n P c m T ν t s) (hl : LA b n P c m t s a) : (s.1 12 = 4 → s.1 14 = kA t (nI a)) ∧ (kA t (nI a) = 40 ∨ kA t (nI a) = 91 → s.1 12 = 4) := by
  obtain ⟨e1, -, -, e4⟩ := LA_k h hl
  obtain ⟨-, hB, -⟩ := id h
  obtain ⟨ha, st0, -, -, -, htk, ⟨k1, k2, k3, k4, k5⟩, -⟩ := id hl
  rw [e1]
  rw [e1] at e4
  have no : ∀ x : Int32, ¬ x = 4 → s.1 12 = x → s.1 12 = 4 → s.1 14 = t.2.1 9 0 1 a := fun x h1 h2 h3 => absurd (h2.symm.trans h3) h1
  constructor
  · rcases Tok_K hB htk with z | z | z | z | z | z | ⟨z, j, hj, ej⟩
    · exact no 5 (by decide) (k1 (Or.inl z)).1
    · exact no 5 (by decide) (k1 (Or.inr z)).1
    · exact no 1 (by decide) (k2 z).1
    · exact absurd z e4
    · exact no 2 (by decide) (k3 z).1
    · exact no 3 (by decide) (k4 z).1
    · exact fun _ => (k5 z).2.2
  · rintro (z | z)
    · exact (k5 (by rw [z]; exact sgn_y 40 (by decide))).1
    · exact (k5 (by rw [z]; exact sgn_y 91 (by decide))).1
theorem w_150 (h : EX b n P c m T ν t s) (hl : LA b n P c m t s a) (K : Int32 → Int32 → Int32 → Int32 → Int32 → Int32 → Int32 → RS → Option (Unit × RS)) (v F k d W : Int32) : g_word_150 U S N K v F k d (-1) W s = (if lS (kA t (nI a)) = 0 then g_all U S N s else g_literal U S N s).bind fun q => g_word_219 U S N K v F k d (-1) W (lS (kA t (nI a))) (s.1 13) q.1 q.2 := by
  obtain ⟨h1, h2⟩ := LA_4 h hl
  unfold g_word_150 g_word_196 g_word_200 g_word_201
  rw [if_pos rfl, if_pos (show (0 : Int32) = 0 from rfl), if_neg (show ¬ (1 : Int32) = 0 by decide)]
  by_cases c4 : s.1 12 = 4
  · rw [if_neg (not_not_intro c4), h1 c4]
    unfold lS
    by_cases c : kA t (nI a) = 40
    · rw [if_pos c, if_pos c, if_neg (show ¬ (1 : Int32) = 0 by decide)]
    · rw [if_neg c, if_neg c]
      by_cases d : kA t (nI a) = 91
      · rw [if_neg (not_not_intro d), if_neg (not_not_intro d), if_neg (show ¬ (1 : Int32) = 0 by decide)]
      · rw [if_pos d, if_pos d, if_pos (show (0 : Int32) = 0 from rfl)]
  · have hk : lS (kA t (nI a)) = 0 := Decidable.byContradiction (fun z => c4 (h2 (lS_k z)))
    rw [if_pos c4, hk, if_pos (show (0 : Int32) = 0 from rfl)]
theorem w_219f (K : Int32 → Int32 → Int32 → Int32 → Int32 → Int32 → Int32 → RS → Option (Unit × RS)) (hf : FZ s) (h5 : ¬ s.1 5 = 0) (v F k d A W L wh y : Int32) : g_word_219 U S N K v F k d A W L wh y s = some ((), s) := by
  unfold g_word_219
  rw [if_neg (nle0 hf h5)]
theorem w_219n (K : Int32 → Int32 → Int32 → Int32 → Int32 → Int32 → Int32 → RS → Option (Unit × RS)) (h5 : s.1 5 = 0) {k : Int32} (hk : ¬ k = 0) (v d A W L wh y : Int32) : g_word_219 U S N K v (-1) k d A W L wh y s = K (v ||| y) (-1) (k + 1) d A W L s := by
  have e : ∀ z, g_word_247 U S N K v (-1) k d A W L wh y z s = K (v ||| y) (-1) (k + 1) d A W L s := by
    intro z
    unfold g_word_247 g_word_279 g_word_343
    rw [if_pos hk]
    by_cases c : k ≤ 0
    · rw [if_pos c]
    · rw [if_neg c, if_pos rfl]
  unfold g_word_219 g_word_246
  rw [if_pos (le0 h5), e, e]
  by_cases c1 : L = 0
  · rw [if_neg (not_not_intro c1)]
    split <;> rfl
  · rw [if_pos c1]
theorem w_219z (K : Int32 → Int32 → Int32 → Int32 → Int32 → Int32 → Int32 → RS → Option (Unit × RS)) (h5 : s.1 5 = 0) (v d A W L wh y : Int32) : (¬ (L = 0 ∧ ¬ s.1 30 = -1 ∧ ¬ s.1 30 < 0 ∧ ¬ 5 < s.1 30) → g_word_219 U S N K v (-1) 0 d A W L wh y s = K (v ||| y) (-1) 1 d A W L s) ∧ ((L = 0 ∧ ¬ s.1 30 = -1 ∧ ¬ s.1 30 < 0 ∧ ¬ 5 < s.1 30) → g_word_219 U S N K v (-1) 0 d A W L wh y s = K (v ||| y) (s.1 30) 1 d A W L s) := by
  have e279 : ∀ F z : Int32, g_word_279 U S N K v F 0 d A W L wh y z s = K (v ||| y) F 1 d A W L s := by
    intro F z
    unfold g_word_279 g_word_343
    rw [if_pos (by decide)]
    rfl
  have e0 : g_word_247 U S N K v (-1) 0 d A W L wh y 0 s = K (v ||| y) (-1) 1 d A W L s := by
    unfold g_word_247 g_word_277 g_word_278
    rw [if_neg (show ¬ ¬ (0 : Int32) = 0 from fun z => z rfl), if_pos (show (0 : Int32) = 0 from rfl), e279]
  unfold g_word_219 g_word_246
  rw [if_pos (le0 h5), e0]
  by_cases c1 : L = 0
  · rw [if_neg (not_not_intro c1)]
    by_cases c2 : s.1 30 = -1
    · rw [if_pos c2]
      exact ⟨fun _ => rfl, fun z => absurd c2 z.2.1⟩
    · rw [if_neg c2]
      unfold g_word_247 g_word_277 g_word_278
      rw [if_neg (show ¬ ¬ (0 : Int32) = 0 from fun z => z rfl), if_neg (show ¬ (1 : Int32) = 0 by decide), g_in_eq, Option.bind_some]
      dsimp only
      by_cases c3 : s.1 30 < 0
      · rw [if_pos c3, if_pos (show (0 : Int32) = 0 from rfl), e279]
        exact ⟨fun _ => rfl, fun z => absurd c3 z.2.2.1⟩
      · rw [if_neg c3]
        by_cases c4 : 5 < s.1 30
        · rw [if_pos c4, if_pos (show (0 : Int32) = 0 from rfl), e279]
          exact ⟨fun _ => rfl, fun z => absurd c4 z.2.2.2⟩
        · rw [if_neg c4, if_neg (show ¬ (1 : Int32) = 0 by decide), e279]
          exact ⟨fun z => absurd ⟨c1, c2, c3, c4⟩ z, fun _ => rfl⟩
  · rw [if_pos c1]
    exact ⟨fun _ => rfl, fun z => absurd z.1 c1⟩
/-- a code alone -/
theorem aln_x {z : Int32} (h : aln t 0 a = z) (hz : ¬ z = -1) : kA t (nI a) = 1 ∧ ¬ vA t (nI a) < 5 ∧ vA t (nI a) < 53 ∧ z = vA t (nI a) - 5 ∧ oP (kA t (nI (a + 1))) = 0 ∧ ∀ r, rv t 0 a = some r → r.2 = a + 1 := by
  unfold aln at h
  cases ep : pm t 0 a with
  | none => rw [ep] at h; exact absurd h.symm hz
  | some q =>
    rw [ep] at h
    dsimp only at h
    by_cases co : oP (kA t (nI q.2)) = 0
    · rw [if_pos co] at h
      unfold alo at h
      by_cases ca : kA t (nI a) = 1 ∧ ¬ vA t (nI a) < 5 ∧ vA t (nI a) < 53
      · rw [if_pos ca] at h
        have hq : q.2 = a + 1 := by
          unfold pm at ep
          rw [if_neg (by rw [ca.1]; decide)] at ep
          cases ev : pv t 0 a with
          | none => rw [ev] at ep; cases ep
          | some y =>
            rw [ev] at ep
            rw [← Option.some.inj ep]
        rw [hq] at co
        refine ⟨ca.1, ca.2.1, ca.2.2, h.symm, co, fun r er => ?_⟩
        have er' : (pm t 0 a).bind (fun p => if ¬ oP (kA t (nI p.2)) = 0 then rvF t 0 2999 (p.2 + 1) (cmb 0 43 p.1) (kA t (nI p.2)) else some (cmb 0 43 p.1, p.2)) = some r := er
        rw [ep, Option.bind_some, hq, if_neg (not_not_intro co)] at er'
        rw [← Option.some.inj er']
      · rw [if_neg ca] at h
        exact absurd h.symm hz
    · rw [if_neg co] at h
      exact absurd h.symm hz
/-- no reference begins here -/
def nRF (t : CS) (a : Nat) : Prop := ¬ (kA t (nI a) = 1 ∧ ¬ vA t (nI a) < 5 ∧ ¬ 10 < vA t (nI a) ∧ ¬ kA t (nI (a + 1)) = 45 ∧ ¬ bP t (nI (a + 1)) = 0)
theorem cd_lt {x : Int32} (h5 : ¬ x < 5) (h53 : x < 53) : ∃ w, 5 ≤ w ∧ w < 53 ∧ x = nI w := by
  have h0 : ¬ x < 0 := by
    intro z
    apply h5
    rw [Int32.lt_iff_toInt_lt] at *
    have : (0 : Int32).toInt = 0 := by decide
    have : (5 : Int32).toInt = 5 := by decide
    omega
  obtain ⟨w, hw, rfl⟩ := nI_of h0
  refine ⟨w, ?_, (ltL (k := 53) (c := 53) rfl (by omega) (by decide)).mp h53, rfl⟩
  have := mt (ltL (x := w) (k := 5) (c := 5) rfl (by omega) (by decide)).mpr h5
  omega
theorem pw_loop (hN : 5000 < N) : ∀ (f g a j k : Nat) (v : Int32) (t : CS) (s : RS), JW b n P c m T ν i p t s → LA b n P c m t s a → t.1 0 0 4 = 0 → s.1 5 = 0 → t.1 0 0 9 = nI a → ¬ bP t (nI a) = 0 → W12 v → j ≤ a → k ≤ a → c + 2 < a + f → c + 2 < a + g → (k = 0 → nRF t a) → ∃ t2 s2, ul_X0_passWord_38 U S N f v 1 (nI j) t = some ((), t2) ∧ l_word_113 U S N g v (-1) (nI k) 0 (-1) (-1) 0 s = some ((), s2) ∧ OUT b n P c m i s t2 s2 := by
  intro f
  induction f with
  | zero => intro g a j k v t s _ hl _ _ _ _ _ _ _ hf _; have := hl.1; omega
  | succ f ih =>
    intro g a j k v t s h hl h4 h5 h9 hb hv hj hka hf hg hH
    obtain ⟨hE, hi2, hi, hcn, hp, h10, h29, h28, h7, hfz, h8, h12⟩ := id h
    obtain ⟨-, -, ⟨-, -, ec, -, hc, -⟩, -, -, -, -, h11, -, hCA⟩ := id hE
    have hac := hl.1
    obtain ⟨g, rfl⟩ : ∃ g', g = g' + 1 := ⟨g - 1, by omega⟩
    obtain ⟨x, y, t2, s2, r1, r2, r3⟩ := item_eq (U := U) (S := S) hN h hl h4 h5 h9
    rw [w_go hN hE hl h5 hb, w_150 hE hl, r2, Option.bind_some]
    dsimp only
    have hG2 : CA t2 := by
      obtain ⟨x', t2', e', g', -⟩ := s_item (U := U) (S := S) (t0 := t) hN ⟨hCA, AF_refl t⟩
      rw [r1] at e'
      rw [(Prod.mk.inj (Option.some.inj e')).2]
      exact g'.1
    show ∃ t2 s2, uh_X0_passWord_38 U S N (ul_X0_passWord_38 U S N f) v 1 (nI j) t = some ((), t2) ∧ _
    unfold uh_X0_passWord_38 u_X0_passWord_100 u_X0_passWord_101
    rw [ec, if_neg (fun z => by have := (ltI (by omega) (by omega)).mp z; omega), if_neg (not_not_intro h4), if_neg (show ¬ (1 : Int32) = 0 by decide), e_kind hCA, Option.bind_some, e_isLit, Option.bind_some, h9]
    dsimp only
    rw [r1, Option.bind_some]
    dsimp only
    rw [e_begP hG2, Option.bind_some, nI_1]
    dsimp only
    obtain ⟨f, rfl⟩ : ∃ f', f = f' + 1 := ⟨f - 1, by omega⟩
    obtain ⟨g, rfl⟩ : ∃ g', g = g' + 1 := ⟨g - 1, by omega⟩
    obtain ⟨q1, q2, q3⟩ := r3
    -- the class ends the word here
    have cend : (¬ t2.1 0 0 4 = 0 ∨ ¬ lS (kA t (nI a)) = 0 ∨ bP t2 (t2.1 0 0 9) = 0) → (if ¬ lS (kA t (nI a)) = 0 then ul_X0_passWord_38 U S N (f + 1) (v ||| x) 0 (nI (j + 1)) t2 else if bP t2 (t2.1 0 0 9) = 0 then ul_X0_passWord_38 U S N (f + 1) (v ||| x) 0 (nI (j + 1)) t2 else ul_X0_passWord_38 U S N (f + 1) (v ||| x) 1 (nI (j + 1)) t2) = u_X0_finishWord U S N (v ||| x) t2 := by
      intro hz
      rw [pw_end (y := 0) (Or.inr rfl)]
      by_cases c1 : lS (kA t (nI a)) = 0
      · rw [if_neg (not_not_intro c1)]
        by_cases c2 : bP t2 (t2.1 0 0 9) = 0
        · rw [if_pos c2]
        · rw [if_neg c2, pw_end (Or.inl (hz.elim id (fun z => z.elim (fun z => absurd c1 z) (fun z => absurd z c2))))]
      · rw [if_pos c1]
    rcases q3 with ⟨u1, u2⟩ | ⟨u1, u2, u3, u4⟩ | ⟨u1, u2, rfl, u4, u5, u6, a2, u7, u8, u9, u10, u11⟩
    · rw [cend (Or.inl u1), w_219f _ q1 u2]
      obtain ⟨t3, e3, hf3⟩ := fin_f (U := U) (S := S) (N := N) u1 (v ||| x)
      exact ⟨t3, s2, e3, rfl, q1, q2, Or.inl ⟨hf3, u2⟩⟩
    · rw [cend (Or.inr (Or.inr (bP_6 u3))), w_219f _ q1 u2]
      obtain ⟨-, -, -, -, -, -, -, -, -, z10, z11⟩ := id u4
      obtain ⟨t3, e3, f1, f2⟩ := fin_d (U := U) (S := S) (N := N) (t := t2) (i := i) (p := p) (by rw [z11]; exact hi) hi2 hp (by rw [z10]; exact h10) u1 u3 (v ||| x)
      exact ⟨t3, s2, e3, rfl, q1, q2, Or.inr (Or.inl ⟨f1, u2, f2⟩)⟩
    · have hw := w12_or hv u4
      obtain ⟨hE2, -, -, -, -, -, -, -, -, hfz2, -⟩ := id u9
      have fin : ∃ t3 s3, u_X0_finishWord U S N (v ||| x) t2 = some ((), t3) ∧ g_lies U S N (v ||| x) s2 = some ((), s3) ∧ OUT b n P c m i s t3 s3 := by
        obtain ⟨t3, s3, f1, f2, f3, f4, f5⟩ := fin_eq (U := U) (S := S) (N := N) u9 u10 u1 u2 u8 (v := v ||| x) (w := v ||| x) (fun _ => ⟨rfl, hw⟩)
        exact ⟨t3, s3, f1, f2, f3, SF_t q2 f4, f5⟩
      by_cases c1 : lS (kA t (nI a)) = 0
      · -- the first, of the reference
        obtain ⟨F, hF1, hF2⟩ : ∃ F, g_word_219 U S N (l_word_113 U S N (g + 1)) v (-1) (nI k) 0 (-1) (-1) (lS (kA t (nI a))) (s.1 13) x s2 = l_word_113 U S N (g + 1) (v ||| x) F (nI (k + 1)) 0 (-1) (-1) 0 s2 ∧ (F = -1 ∨ (k = 0 ∧ ¬ s2.1 30 = -1 ∧ ¬ s2.1 30 < 0 ∧ ¬ 5 < s2.1 30)) := by
          rw [c1]
          by_cases ck : k = 0
          · subst ck
            obtain ⟨w1, w2⟩ := w_219z (U := U) (S := S) (N := N) (l_word_113 U S N (g + 1)) u2 v 0 (-1) (-1) 0 (s.1 13) x
            by_cases cz : (0 : Int32) = 0 ∧ ¬ s2.1 30 = -1 ∧ ¬ s2.1 30 < 0 ∧ ¬ 5 < s2.1 30
            · exact ⟨_, w2 cz, Or.inr ⟨rfl, cz.2⟩⟩
            · exact ⟨_, w1 cz, Or.inl rfl⟩
          · refine ⟨-1, ?_, Or.inl rfl⟩
            rw [w_219n _ u2 (fun z => by have := (eqL (k := 0) (c := 0) rfl (by omega) (by decide)).mp z; omega), nI_1]
        rw [hF1]
        by_cases c2 : bP t2 (t2.1 0 0 9) = 0
        · rw [cend (Or.inr (Or.inr c2))]
          rw [u8] at c2
          rw [w_end hN hE2 u10 u2 c2, w_354 u2]
          · exact fin
          · rcases hF2 with z | ⟨z, -⟩
            · exact Or.inl z
            · exact Or.inr (by rw [z]; decide)
        · rw [if_neg (not_not_intro c1), if_neg c2]
          have hFm : F = -1 := by
            rcases hF2 with z | ⟨z, z1, z2, z3⟩
            · exact z
            · exfalso
              rw [if_pos c1] at u6
              obtain ⟨y1, y2, y3, y4, y5, y6⟩ := aln_x u6.symm z1
              obtain ⟨r, er, er2⟩ := u11 c1
              have ea : a2 = a + 1 := by rw [← er2]; exact y6 r er
              refine hH z ⟨y1, y2, ?_, ?_, ?_⟩
              · obtain ⟨w, w1, w2, w3⟩ := cd_lt y2 y3
                intro q
                rw [w3] at q y4
                have hq := (Llt (k := 10) (c := 10) rfl (by omega) (by decide)).mp q
                apply z3
                rw [y4, show (5 : Int32) = nI 5 from rfl, sub_nI w1]
                exact (ltI (by omega) (by omega)).mpr (by omega)
              · intro q
                rw [q] at y5
                exact absurd y5 (by decide)
              · rw [u8, (SR_k u5).2.2.2.2.2.2.1, ea] at c2
                exact c2
          rw [hFm]
          rw [u8] at c2
          obtain ⟨t3, s3, f1, f2, f3, f4, f5⟩ := ih (g + 1) a2 (j + 1) (k + 1) (v ||| x) t2 s2 u9 u10 u1 u2 u8 c2 hw (by omega) (by omega) (by omega) (by omega) (fun z => by omega)
          exact ⟨t3, s3, f1, f2, f3, SF_t q2 f4, f5⟩
      · rw [cend (Or.inr (Or.inl c1))]
        have e : g_word_219 U S N (l_word_113 U S N (g + 1)) v (-1) (nI k) 0 (-1) (-1) (lS (kA t (nI a))) (s.1 13) x s2 = g_lies U S N (v ||| x) s2 := by
          by_cases ck : k = 0
          · subst ck
            rw [show (nI 0 : Int32) = 0 from rfl, (w_219z (U := U) (S := S) (N := N) (l_word_113 U S N (g + 1)) u2 v 0 (-1) (-1) _ (s.1 13) x).1 (fun z => c1 z.1), w_lit u2 c1, w_354 u2 (Or.inl rfl)]
          · rw [w_219n _ u2 (fun z => by have := (eqL (k := 0) (c := 0) rfl (by omega) (by decide)).mp z; omega), w_lit u2 c1, w_354 u2 (Or.inl rfl)]
        rw [e]
        exact fin
end
