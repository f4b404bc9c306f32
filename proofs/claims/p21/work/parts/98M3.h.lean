/-! LAYER 3, the passes, side by side -/
def JE (b : Nat → Int32) (n : Nat) (P : Nat → Nat) (c m T : Nat) (ν : Nat → Nat) (i : Nat) (t : CS) (s : RS) : Prop := EX b n P c m T ν t s ∧ i < 2 ∧ t.2.2.2.1 0 0 3 = some i ∧ t.1 7 i 1 = nI (cn (t.2.1 7 i 0) 4096) ∧ plW (t.1 0 0 10) ∧ s.1 29 = 0 ∧ FZ s ∧ RSh (t.2.1 7 i 0) s
def FIN (b : Nat → Int32) (n : Nat) (P : Nat → Nat) (c m i : Nat) (s : RS) (t2 : CS) (s2 : RS) : Prop := FZ s2 ∧ SF s s2 ∧ ((¬ t2.1 0 0 4 = 0 ∧ ¬ s2.1 5 = 0) ∨ (t2.1 0 0 4 = 0 ∧ s2.1 5 = 0 ∧ ∃ T ν, JE b n P c m T ν i t2 s2))
/-- what pass 2 must know of pass 1 -/
def PH (U S N m j : Nat) (t : CS) : Prop := t.1 0 0 6 = 0 ∨ (¬ t.1 0 0 6 = 0 ∧ ∃ t1 tE f1, TW m t1 t tE ∧ ul_X0_passOver_29 U S N f1 (nI j) t1 = some ((), tE) ∧ tE.1 0 0 4 = 0)
def cnt (U S N h : Nat) (s : RS) : Option (Unit × RS) := (some (pI s 4 ((s.1 4) + 1))).bind fun μ8 => l_pass_28 U S N h μ8
section
variable {U S N n c m T i p a : Nat} {b : Nat → Int32} {P ν : Nat → Nat} {t : CS} {s : RS}
theorem TV_TB (h : TB b n t P c m) (hB : ∀ i, i < n → ∃ j, j < 256 ∧ b i = nI j) : TV n c m t := by
  obtain ⟨-, -, -, -, -, -, hT, -⟩ := h
  intro x hx
  obtain ⟨st, -, -, -, -, tk⟩ := hT x hx
  refine ⟨fun hk => ?_, fun hk => ?_, ?_⟩
  · rw [hk] at tk
    rcases tk with ⟨-, z⟩ | ⟨-, -, z, -⟩ | ⟨-, -, z, -, ⟨-, y⟩ | ⟨-, w, w1, -, ⟨-, y, -⟩ | ⟨-, -, -, ⟨y, -⟩ | ⟨y, -⟩⟩⟩⟩ | ⟨-, -, -, z, -, ⟨-, y⟩ | ⟨-, y, -⟩⟩ | ⟨-, -, ⟨z, -⟩ | ⟨z, -⟩⟩ | ⟨-, -, -, -, -, -, ⟨y, z, -⟩ | ⟨z, -⟩⟩
    · exact absurd z (by decide)
    · exact absurd z (by decide)
    · exact absurd y (by decide)
    · exact ⟨w, w1, y⟩
    · exact absurd y (by decide)
    · exact absurd y (by decide)
    · exact absurd y (by decide)
    · exact absurd y (by decide)
    · exact absurd z (by decide)
    · exact absurd z (by decide)
    · rw [← y] at z; exact absurd z sgn_n.2.1
    · exact absurd z (by decide)
  · rw [hk] at tk
    rcases tk with ⟨-, z⟩ | ⟨-, -, z, -⟩ | ⟨-, -, z, -, ⟨-, y⟩ | ⟨-, w, w1, -, ⟨y, -⟩ | ⟨-, -, -, ⟨y, -⟩ | ⟨-, y, w, yt, y1, y2, -⟩⟩⟩⟩ | ⟨-, -, -, z, -, ⟨-, y⟩ | ⟨-, y, -⟩⟩ | ⟨-, -, ⟨z, -⟩ | ⟨z, -⟩⟩ | ⟨-, -, -, -, -, -, ⟨y, z, -⟩ | ⟨z, -⟩⟩
    · exact absurd z (by decide)
    · exact absurd z (by decide)
    · exact absurd y (by decide)
    · exact absurd y (by decide)
    · exact absurd y (by decide)
    · exact ⟨y, w, y1, y2, yt.2.2.2.1, yt.2.2.2.2.1⟩
    · exact absurd y (by decide)
    · exact absurd y (by decide)
    · exact absurd z (by decide)
    · exact absurd z (by decide)
    · rw [← y] at z; exact absurd z sgn_n.2.2.2.2.1
    · exact absurd z (by decide)
  · rcases Tok_K hB tk with z | z | (z | z | z) | z | z | z | ⟨-, j, hj, ej⟩
    · exact ⟨0, by decide, z⟩
    · exact ⟨10, by decide, z⟩
    · exact ⟨1, by decide, z⟩
    · exact ⟨4, by decide, z⟩
    · exact ⟨5, by decide, z⟩
    · exact ⟨6, by decide, z⟩
    · exact ⟨2, by decide, z⟩
    · exact ⟨3, by decide, z⟩
    · exact ⟨j, hj, ej⟩
theorem rg_RN (h : RN t s m T ν) : rg m t := by
  obtain ⟨-, -, -, h1, -, h2⟩ := h
  intro w w1 w2
  by_cases hx : ∃ k, k < T ∧ ν k = w
  · obtain ⟨k, k1, rfl⟩ := hx
    obtain ⟨-, -, -, -, z | z⟩ := h1 k k1
    · exact Or.inr (Or.inl z.1)
    · exact Or.inr (Or.inr z.1)
  · exact Or.inl (h2 w w1 w2 (fun k k1 k2 => hx ⟨k, k1, k2⟩)).1
theorem P0_JS (h : JS b n P c m T ν i t s) (hl : LA b n P c m t s a) (h4 : t.1 0 0 4 = 0) (h9 : t.1 0 0 9 = nI a) : ∃ p, P0 n c m a p t := by
  obtain ⟨hE, -, -, -, ⟨p, hp, h10⟩, -⟩ := h
  obtain ⟨hn, hB, hTB, ⟨em, -⟩, hRN, -, -, -, -, hCA⟩ := hE
  have hac := hl.1
  exact ⟨p, hCA, hTB.2.2.1, em, hTB.1, TV_TB hTB hB, rg_RN hRN, h4, h9, by omega, h10, hp⟩
theorem l6_0 {g : Nat} : l_line_6 U S N (g + 1) 0 s = g_line_91 U S N s := by
  show h_line_6 U S N (l_line_6 U S N g) 0 s = _
  unfold h_line_6
  rw [if_pos rfl]
theorem l91_x (h : ¬ s.1 5 = 0 ∨ ¬ s.1 28 = 0) : g_line_91 U S N s = some ((), s) := by
  unfold g_line_91 g_line_113
  by_cases c : s.1 5 = 0
  · rw [if_neg (not_not_intro c), if_pos (h.resolve_left (not_not_intro c))]
  · rw [if_pos c]
theorem l91_n (h5 : s.1 5 = 0) (h28 : s.1 28 = 0) : g_line_91 U S N s = some ((), pI s 4 (s.1 16)) := by
  unfold g_line_91 g_line_113
  rw [if_neg (not_not_intro h5), if_neg (not_not_intro h28)]
  rfl
theorem l6_f {g : Nat} {x : Int32} (h : ¬ s.1 5 = 0) : l_line_6 U S N (g + 1) x s = some ((), s) := by
  show h_line_6 U S N (l_line_6 U S N g) x s = _
  unfold h_line_6
  rw [l91_x (Or.inl h), if_pos h]
  split <;> rfl
theorem g39_f {g : Nat} (h : ¬ s.1 5 = 0) : g_line_39 U S N (l_line_6 U S N (g + 1)) s = some ((), s) := by
  unfold g_line_39
  rw [sg_f h, Option.bind_some]
  dsimp only
  rw [if_pos (show (0 : Int32) = 0 from rfl), if_pos h, l6_f h]
theorem cnt_x {h : Nat} (hx : ¬ s.1 5 = 0 ∨ ¬ s.1 28 = 0) : cnt U S N (h + 1) s = some ((), pI s 4 (s.1 4 + 1)) := by
  unfold cnt
  rw [Option.bind_some]
  show h_pass_28 U S N (l_pass_28 U S N h) (pI s 4 (s.1 4 + 1)) = _
  unfold h_pass_28 g_pass_70
  by_cases c : (pI s 4 (s.1 4 + 1)).1 5 = 0
  · rw [if_neg (not_not_intro c), if_pos (show ¬ (pI s 4 (s.1 4 + 1)).1 28 = 0 from hx.resolve_left (not_not_intro c))]
  · rw [if_pos c]
theorem JE_JS (h : JS b n P c m T ν i t s) {s2 : RS} (e1 : ∀ k, k ≠ 4 → k ≠ 28 → s2.1 k = s.1 k) (e2 : s2.2 = s.2) : JE b n P c m T ν i (qI t 0 0 7 1) s2 := by
  obtain ⟨hE, h2, h3, h4, h5, h6, h7, h8, h9, h10, h11, h12⟩ := h
  obtain ⟨q1, q2, q3, q4, q5, q6, q7, q8, q9, q10⟩ := hE
  refine ⟨⟨q1, q2, q3, q4, RN_s q5 (e1 21 (by decide) (by decide)) (by rw [e2]) (by rw [e2]) (by rw [e2]) (by rw [e2]), ⟨(e1 3 (by decide) (by decide)).trans q6.1, by rw [e2]; exact q6.2⟩, (e1 10 (by decide) (by decide)).trans q7, (e1 11 (by decide) (by decide)).trans q8, (e1 9 (by decide) (by decide)).trans q9, (GA_0 ⟨q10, AF_refl t⟩ 7 1).1⟩, h2, h3, h4, h5, (e1 29 (by decide) (by decide)).trans h6, ?_, RSh_s h12 (by rw [e2]; exact ⟨rfl, rfl, rfl, rfl⟩)⟩
  unfold FZ
  rw [e1 5 (by decide) (by decide)]
  exact h9
theorem FIN_f {t2 : CS} {s2 : RS} (h1 : FZ s2) (h2 : SF s s2) (h3 : ¬ t2.1 0 0 4 = 0) (h4 : ¬ s2.1 5 = 0) (x : Int32) : FIN b n P c m i s t2 (pI s2 4 x) := ⟨h1, SF_I h2 (by decide) x, Or.inl ⟨h3, h4⟩⟩
theorem st_7 {t2 : CS} {D : Int32} (h : ST37 t N p a D t2) (hD : ¬ D = 36) : t2.1 0 0 7 = t.1 0 0 7 := by
  unfold ST37 at h
  by_cases d4 : D = 4
  · rw [if_pos d4] at h
    obtain ⟨y, w, -, -, -, -, -, -, s⟩ := h
    exact s.2.2.2.2.2.2.1
  rw [if_neg d4] at h
  by_cases d5 : D = 5
  · rw [if_pos d5] at h; exact h.elim
  rw [if_neg d5, if_neg hD] at h
  by_cases d42 : D = 42
  · rw [if_pos d42] at h
    obtain ⟨r, -, e⟩ := h
    rw [e]; rfl
  rw [if_neg d42] at h
  by_cases d256 : D = 256
  · rw [if_pos d256] at h
    obtain ⟨w, r, -, -, -, -, e⟩ := h
    rw [e, (tl_f (t := qI t 0 0 9 (nI r.2)) w r.1 2).1 0 (by decide)]
    rfl
  rw [if_neg d256] at h
  by_cases d257 : D = 257
  · rw [if_pos d257] at h; exact h.2.2.2.2.2.2.2.2.1
  rw [if_neg d257] at h
  by_cases d300 : D = 300
  · rw [if_pos d300] at h
    rcases h with ⟨-, e⟩ | ⟨-, r, -, e⟩ <;> rw [e] <;> rfl
  rw [if_neg d300] at h
  by_cases d301 : D = 301
  · rw [if_pos d301] at h; rw [h]; rfl
  rw [if_neg d301] at h
  by_cases d302 : D = 302
  · rw [if_pos d302] at h; rw [h]; rfl
  rw [if_neg d302] at h
  by_cases d303 : D = 303
  · rw [if_pos d303] at h
    obtain ⟨k, r2, -, -, -, -, s⟩ := h
    exact s.2.2.2.2.2.2.1
  rw [if_neg d303] at h
  exact h.2.2.2.2.2.2.2.2.1
/-- a token of no kind ends a pass -/
theorem ov_6 (hN : 5000 < N) {f j : Nat} (hC : CA t) (ec : t.1 9 0 5 = nI c) (hc : c ≤ 2001) (hj : j ≤ c) (h4 : t.1 0 0 4 = 0) (h7 : t.1 0 0 7 = 0) (h6 : kA t (t.1 0 0 9) = 6) : ∃ t2, ul_X0_passOver_29 U S N (f + 2) (nI j) t = some ((), t2) ∧ ¬ t2.1 0 0 4 = 0 := by
  obtain ⟨ta, tb, tc, e1, e2, e3, g1, g2, g3, e4⟩ := ov_s (U := U) (S := S) (f := f + 1) (j := j) hN hC ec hc hj h4 h7
  have ea : u_X0_passLabels U S N t = some ((), t) := by
    obtain ⟨N, rfl⟩ : ∃ k, N = k + 1 := ⟨N - 1, by omega⟩
    show uh_X0_passLabels_2 U S (N + 1) (ul_X0_passLabels_2 U S (N + 1) N) 0 t = _
    unfold uh_X0_passLabels_2 u_X0_passLabels_106 u_X0_passLabels_47
    rw [ec, if_neg (fun z => by have := (ltL (k := 0) (c := 0) rfl (by omega) (by decide)).mp z; omega), if_neg (not_not_intro h4), e_kind hC, Option.bind_some, h6]
    dsimp only
    rw [if_pos (show ¬ (6 : Int32) = 1 by decide)]
  have et := inj2 e1 ea
  subst et
  obtain ⟨t2, x1, x2⟩ := st_d (U := U) (S := S) (N := N) hC h4 h6
  rw [inj2 x1 e2] at x2
  have x3 := g3.2.2.2.2.2.1 x2
  rw [e4, ov_f (Or.inl x3)]
  exact ⟨tc, rfl, x3⟩
end
